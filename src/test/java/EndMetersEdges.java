import java.util.ArrayList;
import java.util.List;

/**
 * A test for each sentence of the document that names a boundary case: the last number within a bound
 * and the first ones beyond it, the empty and the full case, what stands in brackets.
 * EndMetersRefusals has what a refused call answers where several answers fit, and that it changes nothing.
 */
public final class EndMetersEdges {
    private static final int NONE = Probe.NONE, UNKNOWN = Probe.UNKNOWN, OUTSIDE = Probe.OUTSIDE,
            STATE = Probe.STATE, FULL = Probe.FULL, ENDLESS = Probe.ENDLESS;
    private static final int MOST = 10;
    private static final int MOST_SUM = 100000;
    private static final int MOST_SENT = 1000000;
    /** Ten WAYS over ten LINES with the greatest determinant that there is: 320. */
    private static final int[] GREATEST_DETERMINANT = {779, 300, 370, 410, 233, 678, 604, 453, 945, 55};
    /** Ten WAYS over ten LINES whose determinant, 295, is the lower number of a DELAY too. */
    private static final int[] GREAT_LOWER_NUMBER = {91, 856, 277, 358, 442, 753, 361, 204, 899, 559};
    private static final int[] ITS_SUMS = {73129, 72468, 56536, 73566, 84026, 87871, 73284, 59740, 73557, 84421};
    /** Ten WAYS over ten LINES; crossed with one another and never divided, they come to numbers that an int wraps to 0. */
    private static final int[] WRAPPING_OF_RANK_TEN = {648, 5, 427, 966, 776, 474, 183, 760, 399, 483};
    private static final int[] WRAPPING_OF_RANK_NINE = {910, 339, 1021, 199, 917, 242, 527, 526, 85, 413};
    private static final int[] WRAPPING_WITHOUT_KNOWN = {573, 892, 577, 422, 403, 77, 643, 711, 865, 437};
    /** Ten WAYS over five LINES, nearly every five of which leave a SOLUTION, but no six. */
    private static final int[] MANY_LIARS = {17, 18, 26, 14, 23, 1, 15, 20, 7, 28};
    private static final int[] THEIR_SUMS = {107, 107, 155, 158, 200, 52, 207, 109, 152, 155};
    /** WAYS over ten LINES, each of which meets many SETS of three. */
    private static final int[] MANY_SICK = {728, 182, 465, 905, 557, 355, 844};

    public static void main(String[] args) {
        objectsLife();
        numbersAndSets();
        linesAndWays();
        stateOfWays();
        solutions();
        ends();
        shownSolutions();
        settledAndKnown();
        rankAndGroups();
        lyingSets();
        offersAndAdvice();
        sickSets();
        pairs();
        promisesOfTheNet();
        promiseOfCount();
        promisesOfWhatLiesWithin();
        promisesOfMetersThatLie();
        promisesOfSickLinesAndShares();
        Probe.finish();
    }

    private static void says(String words) {
        Probe.sentence(words);
    }

    private static Probe withLines(int n) {
        return new Probe().does("lines", n);
    }

    /** n LINES and WAYS, given as SET, SUM, SET, SUM and so on. */
    private static Probe net(int n, int... ways) {
        Probe x = withLines(n);
        for (int i = 0; i < ways.length; i += 2) {
            x.does("way", ways[i], ways[i + 1]);
        }
        return x;
    }

    /** n LINES and WAYS with their SUMS, but for those of the SET left out. */
    private static Probe netWithout(int left, int n, int[] sets, int[] sums) {
        Probe x = withLines(n);
        for (int w = 0; w < sets.length; w++) {
            if ((left >> w & 1) == 0) {
                x.does("way", sets[w], sums[w]);
            }
        }
        return x;
    }

    /** n LINES and OFFERS. */
    private static Probe offers(int n, int... sets) {
        Probe x = withLines(n);
        for (int set : sets) {
            x.does("offer", set);
        }
        return x;
    }

    /** n LINES and BAD WAYS. */
    private static Probe badWays(int n, int... sets) {
        Probe x = withLines(n);
        for (int w = 0; w < sets.length; w++) {
            x.does("way", sets[w], 1).does("bad", w, 1);
        }
        return x;
    }

    private static long[] longs(List<Integer> sets) {
        return sets.stream().mapToLong(Integer::longValue).toArray();
    }

    // ---- What it is

    private static void objectsLife() {
        says("An object is used for at most 512 calls after it has been made");
        lastCallDue(3, "lines", 10);
        lastCallDue(3, "way", 7, 13);
        lastCallDue(10, "sum", 0, 11);
        lastCallDue(3, "over", 0, 7);
        lastCallDue(1, "on", 2, 0);
        lastCallDue(1, "bad", 0, 0);
        lastCallDue(2, "back");
        lastCallDue(9, "told", 2, 1);
        lastCallDue(3, "count", 3);
        lastCallDue(1, "fits");
        lastCallDue(13, "bound", 7, 1, 0);
        lastCallDue(4, "shown", 7, 0, 1, 0);
        lastCallDue(1, "settled", 2);
        lastCallDue(1, "known", 2);
        lastCallDue(2, "group", 1);
        lastCallDue(0, "lying", 0);
        lastCallDue(1, "offer", 2);
        lastCallDue(1, "offered", 0, 7);
        lastCallDue(0, "advice", 7);
        lastCallDue(0, "sick", NONE);
        lastCallDue(1, "pair", 4, 2, 2, 1, 0, 1);
        lastCallDue(UNKNOWN, "told", 3, 0);
        dearCallsToTheLast();
        changesToTheLast();
        changesBeforeTheLast();
    }

    /** The DELAYS are 6, 4, 3 before the last call, after a hundred changes and as many ways back. */
    private static void lastCallDue(long want, String name, int... a) {
        Probe x = net(3, 3, 10, 6, 7, 5, 9).does("offer", 1).does("bad", 0, 1);
        for (int turn = 0; turn < 101; turn++) {
            x.does("sum", 0, 20).does("lying", NONE).does("sum", 0, 10).does("advice", 7).does("bound", 1, 0, 0);
        }
        Probe.must(x.calls() == Probe.MOST_CALLS - 1, "the test is one call before the last");
        x.due(want, name, a);
    }

    private static void dearCallsToTheLast() {
        Probe x = withLines(MOST);
        for (int w = 0; w < MOST; w++) {
            x.due(w, "way", 1, w).due(w, "offer", 1 << w);
        }
        for (int turn = 0; turn < 81; turn++) {
            x.due(0, "sum", 0, 10).due(10, "lying", NONE).due(10, "sum", 0, 0).due(1022, "lying", 9);
            x.due(1022, "advice", 1023).due(1, "sick", NONE);
        }
        x.due(0, "fits").due(STATE, "count", 5).due(1, "count", 3).due(10, "count", 1).due(10, "count", 8);
        Probe.must(x.calls() == Probe.MOST_CALLS, "the test has come to the last call");
    }

    /** Every other call is a change, and the next one shows it: the DELAYS of LINES 1 and 2 are not below 0 up to a SUM of 16. */
    private static void changesToTheLast() {
        Probe x = net(3, 3, 2, 6, 7, 5, 9);
        int before = 2;
        for (int turn = 0; turn < 254; turn++) {
            int sum = 2 + turn * 2 % 18;
            x.due(before, "sum", 0, sum).due(sum > 16 ? STATE : (sum + 2) / 2, "bound", 1, 0, 0);
            before = sum;
        }
        Probe.must(x.calls() == Probe.MOST_CALLS, "the test has come to the last call");
    }

    /** Nearly all calls are changes. */
    private static void changesBeforeTheLast() {
        Probe x = net(1, 1, 0, 1, 0);
        for (int turn = 0; turn < 502; turn++) {
            x.due(turn / 2, "sum", turn % 2, turn / 2 + 1);
        }
        x.due(1, "fits").due(251, "sum", 0, 252).due(0, "fits").due(2, "lying", NONE);
        x.due(251, "sum", 1, 252).due(1, "lying", NONE).due(1, "settled", 0);
        Probe.must(x.calls() == Probe.MOST_CALLS, "the test has come to the last call");
    }

    // ---- Terms

    private static void numbersAndSets() {
        says("what has a number has it from 0 on");
        for (int n = 1; n <= MOST; n++) {
            int all = Probe.all(n);
            withLines(n).due(all, "group", 0).due(all, "group", n - 1).due(UNKNOWN, "group", n).due(UNKNOWN, "group", -1);
        }
        withLines(2).due(0, "way", 1, 5).due(1, "way", 2, 6).due(5, "told", 0, 1).due(6, "told", 1, 1);
        withLines(2).due(0, "offer", 1).due(1, "offer", 2).due(1, "offered", 0, 3).due(2, "offered", 1, 3);
        net(1, 1, 5, 1, 6).due(1, "lying", 0).due(2, "lying", 1);
        badWays(2, 3).due(1, "sick", 0).due(2, "sick", 1);

        says("A SET of LINES, of WAYS is a whole number, bit k for k");
        for (int k = 0; k < MOST; k++) {
            int other = (k + 1) % MOST;
            Probe x = net(MOST, 1 << k, 7).does("bad", 0, 1);
            x.due(1 << k, "told", 0, 0).dueBound(1 << k, 1, 7, 1).due(ENDLESS, "bound", 1 << other, 1, 0);
            x.due(1 << k, "group", k).due(1023 - (1 << k), "group", other).dueList("sick", 1 << k);
            oneLiarOfTen(k).dueList("lying", 1 << k);
            for (int i = 0; i < MOST; i++) {
                x.does("offer", 1 << MOST - 1 - i);
            }
            x.due(1 << MOST - 1 - other, "advice", 1 << other);
        }
    }

    private static Probe oneLiarOfTen(int liar) {
        Probe x = withLines(1);
        for (int w = 0; w < MOST; w++) {
            x.does("way", 1, w == liar ? 6 : 5);
        }
        return x;
    }

    private static void linesAndWays() {
        says("LINES 0 to n - 1 (n 1 .. 10; 4 at first)");
        Probe x = new Probe().due(4, "count", 0).due(15, "group", 3).due(UNKNOWN, "group", 4);
        x.due(4, "lines", 1).due(1, "count", 0).due(1, "lines", MOST).due(MOST, "count", 0);
        for (int n : Probe.beyond(1, MOST)) {
            x.due(OUTSIDE, "lines", n).due(MOST, "count", 0);
        }
        x.due(MOST, "lines", 1);
        for (int n = 2; n <= MOST; n++) {
            x.due(n - 1, "lines", n).due(n, "count", 0).due(OUTSIDE, "way", 1 << n, 0).due(0, "way", 1 << n - 1, 0);
        }

        says("WAYS (10 at most)");
        x = withLines(3);
        for (int w = 0; w < MOST; w++) {
            x.due(w, "way", 7, w).due(w + 1, "count", 1);
        }
        x.due(FULL, "way", 7, 10).due(FULL, "way", 1, 0).due(MOST, "count", 1).dueWay(9, 7, 9, 1, 0);
        for (int w = 0; w < MOST; w++) {
            x.does("on", w, 0);
        }
        x.due(FULL, "way", 7, 10).due(0, "offer", 7).due(9, "back").due(9, "way", 1, 3).due(FULL, "way", 1, 3);
        x.dueWay(9, 1, 3, 1, 0).does("lines", 3).due(0, "way", 1, 1);

        says("each over a SET of LINES (not empty)");
        for (int n = 1; n <= MOST; n++) {
            setsOfLines(n);
        }

        says("with a SUM (0 .. 100000)");
        x = withLines(2).due(0, "way", 1, 0).due(1, "way", 2, MOST_SUM).dueBound(1, 1, 0, 1).dueBound(2, 0, MOST_SUM, 1);
        x.due(0, "sum", 0, MOST_SUM).due(MOST_SUM, "sum", 1, 0).dueBound(1, 0, MOST_SUM, 1).dueBound(2, 1, 0, 1);
        for (int sum : Probe.beyond(0, MOST_SUM)) {
            x.due(OUTSIDE, "way", 1, sum).due(OUTSIDE, "sum", 0, sum).due(OUTSIDE, "sum", 1, sum);
        }
        x.due(2, "count", 1).dueWay(0, 1, MOST_SUM, 1, 0).dueWay(1, 2, 0, 1, 0);
    }

    private static void setsOfLines(int n) {
        int all = Probe.all(n);
        Probe x = withLines(n).due(0, "way", 1, 5).due(1, "way", all, 5).due(0, "offer", 1).due(1, "offer", all);
        x.due(all, "over", 1, 1).due(1, "over", 1, all).due(all, "offered", 1, 1).due(1, "offered", 1, all);
        for (int set : Probe.beyond(1, all)) {
            x.due(OUTSIDE, "way", set, 5).due(OUTSIDE, "over", 0, set).due(OUTSIDE, "offer", set).due(OUTSIDE, "offered", 0, set);
        }
        x.due(2, "count", 1).due(2, "count", 8).due(1, "told", 0, 0).due(all, "told", 1, 0).due(1, "offered", 0, 1);
    }

    private static void stateOfWays() {
        says("ON, or not (ON at first)");
        Probe x = net(2, 1, 5).due(1, "told", 0, 2).due(1, "count", 2).due(1, "on", 0, 0).due(0, "told", 0, 2).due(0, "count", 2);
        x.does("back").does("way", 1, 5).due(1, "told", 0, 2).does("on", 0, 0);
        x.does("lines", 2).does("way", 1, 5).due(1, "told", 0, 2);
        x = net(2, 1, 5).does("on", 0, 0).does("way", 2, 6).due(0, "told", 0, 2).due(1, "told", 1, 2).due(1, "count", 2);

        says("BAD, or GOOD (at first)");
        x = net(2, 1, 5).due(0, "told", 0, 3).due(0, "bad", 0, 1).due(1, "told", 0, 3);
        x.does("back").does("way", 1, 5).due(0, "told", 0, 3).does("bad", 0, 1);
        x.does("lines", 2).does("way", 1, 5).due(0, "told", 0, 3);
        x = net(2, 1, 5).does("bad", 0, 1).does("way", 2, 6).due(1, "told", 0, 3).due(0, "told", 1, 3);
    }

    private static void solutions() {
        says("a DELAY for each LINE, a fraction not below 0");
        Probe x = net(2, 3, 5, 1, 5).due(1, "fits").dueBound(2, 1, 0, 1).does("sum", 1, 6).due(0, "fits");
        x.does("sum", 0, 6).due(1, "fits").does("sum", 1, 0).due(1, "fits").dueBound(2, 0, 6, 1);
        net(2, 3, 0, 1, 0).due(1, "fits").does("sum", 1, 1).due(0, "fits");
        net(2, 3, MOST_SUM, 1, MOST_SUM).due(1, "fits").does("sum", 0, MOST_SUM - 1).due(0, "fits");
        x = net(3, 3, 1, 6, 1, 5, 1).due(1, "fits").dueBound(1, 0, 1, 2).dueBound(1, 1, 1, 2);
        x.does("sum", 0, 2).due(1, "fits").dueBound(4, 1, 0, 1).does("sum", 0, 3).due(0, "fits");

        says("for each WAY that is ON the DELAYS of its LINES come to its SUM");
        x = net(1, 1, 5, 1, 5).due(1, "fits").does("sum", 1, 6).due(0, "fits").does("on", 1, 0).due(1, "fits").dueBound(1, 0, 5, 1);
        x.does("on", 0, 0).due(1, "fits").dueBound(1, 0, 0, 1).does("on", 1, 1).dueBound(1, 0, 6, 1);
        x = netWithout(0, MOST, GREAT_LOWER_NUMBER, ITS_SUMS).dueBound(64, 0, 5066531, 295).dueBound(64, 1, 5066531, 295);
        comesToAllSums(x, 1023, 0, GREAT_LOWER_NUMBER, ITS_SUMS);
        x = netWithout(1 << 9 | 1 << 4 | 1, MOST, GREAT_LOWER_NUMBER, ITS_SUMS);
        comesToAllSums(x, 64, 1, new int[] {856, 277, 358, 753, 361, 204, 899},
                new int[] {72468, 56536, 73566, 87871, 73284, 59740, 73557});

        says("A LINE is SEEN, if a WAY that is ON is over it");
        x = withLines(MOST).due(0, "count", 4).does("way", 1, 1).due(1, "count", 4).does("way", 1, 1).due(1, "count", 4);
        x.does("way", 512, 0).due(2, "count", 4).does("way", 1023, 1).due(MOST, "count", 4);
        x.does("on", 3, 0).due(2, "count", 4).does("on", 0, 0).due(2, "count", 4).does("on", 1, 0).due(1, "count", 4);
        x.does("on", 2, 0).due(0, "count", 4);
    }

    private static void comesToAllSums(Probe x, int set, int end, int[] sets, int[] sums) {
        long[] upper = new long[MOST];
        long[] lower = new long[MOST];
        long common = 1;
        for (int k = 0; k < MOST; k++) {
            upper[k] = x.call("shown", set, end, k, 0);
            lower[k] = x.call("shown", set, end, k, 1);
            Probe.must(upper[k] >= 0 && lower[k] > 0, x.story() + "tells a DELAY of " + upper[k] + "/" + lower[k]);
            common = lower[k] > 0 ? common / greatestDivisor(common, lower[k]) * lower[k] : common;
        }
        for (int w = 0; w < sets.length; w++) {
            long sum = 0;
            for (int k = 0; k < MOST; k++) {
                sum += lower[k] > 0 && (sets[w] >> k & 1) == 1 ? common / lower[k] * upper[k] : 0;
            }
            Probe.must(sum == common * sums[w], x.story() + "does not come to the SUM " + sums[w] + " over " + sets[w]);
        }
    }

    private static long greatestDivisor(long a, long b) {
        return b == 0 ? a : greatestDivisor(b, a % b);
    }

    private static void ends() {
        says("Of a SET of LINES, if there is a SOLUTION: the LEAST sum of their DELAYS over all SOLUTIONS, the GREATEST one");
        Probe x = net(MOST, 1023, MOST_SUM);
        for (int k = 0; k < MOST; k++) {
            x.dueBound(1 << k, 0, 0, 1).dueBound(1 << k, 1, MOST_SUM, 1);
        }
        x.dueBound(1022, 0, 0, 1).dueBound(511, 1, MOST_SUM, 1).dueBound(1023, 0, MOST_SUM, 1).dueBound(1023, 1, MOST_SUM, 1);
        x = withLines(MOST);
        for (int k = 0; k < MOST; k++) {
            x.does("way", 1 << k, MOST_SUM);
        }
        x.dueBound(1023, 0, 1000000, 1).dueBound(1023, 1, 1000000, 1).dueBound(1022, 1, 900000, 1);
        net(3, 3, 10, 6, 7).dueBound(1, 0, 3, 1).dueBound(1, 1, 10, 1).dueBound(5, 0, 3, 1).dueBound(5, 1, 17, 1);
        net(4, 7, 1, 11, 1, 13, 1, 14, 1).dueBound(15, 0, 4, 3).dueBound(15, 1, 4, 3).dueBound(9, 1, 2, 3).dueBound(7, 0, 1, 1);

        says("the GREATEST one (ENDLESS, if one of the LINES is not SEEN)");
        x = net(MOST, 511, 5).due(ENDLESS, "bound", 512, 1, 0).due(ENDLESS, "bound", 512, 1, 1).due(ENDLESS, "bound", 513, 1, 0);
        x.due(ENDLESS, "bound", 1023, 1, 0).dueBound(511, 1, 5, 1).dueBound(1, 1, 5, 1).dueBound(512, 0, 0, 1).dueBound(1023, 0, 5, 1);
        x.does("sum", 0, 0).dueBound(511, 1, 0, 1).due(ENDLESS, "bound", 1023, 1, 1).does("way", 512, 0).dueBound(1023, 1, 0, 1);
        x.does("on", 0, 0).does("on", 1, 0);
        for (int k = 0; k < MOST; k++) {
            x.due(ENDLESS, "bound", 1 << k, 1, 0).due(ENDLESS, "bound", 1 << k, 1, 1).dueBound(1 << k, 0, 0, 1);
        }
    }

    private static void shownSolutions() {
        says("THE SHOWN SOLUTION of the LEAST (GREATEST) one: of all SOLUTIONS that have it that with the least DELAY of LINE 0");
        net(3, 7, 9).dueShownWhole(6, 1, 0, 0, 9).dueShownWhole(3, 0, 0, 0, 9).dueShownWhole(7, 0, 0, 0, 9);
        net(3, 7, 9).dueShownWhole(6, 0, 9, 0, 0).dueShownWhole(1, 1, 9, 0, 0).dueShownWhole(3, 1, 0, 9, 0);

        says("of these that with the least one of LINE 1, and so on");
        net(3, 7, 9).dueShownWhole(4, 0, 0, 9, 0).dueShownWhole(2, 1, 0, 9, 0).dueShownWhole(5, 1, 0, 0, 9);
        net(4, 3, 4, 12, 5).dueShownWhole(15, 1, 0, 4, 0, 5).dueShownWhole(10, 0, 4, 0, 5, 0).dueShownWhole(8, 0, 0, 4, 5, 0);
        net(4, 3, 4, 12, 5, 6, 3).dueShownWhole(0, 0, 1, 3, 0, 5).dueShownWhole(4, 1, 4, 0, 3, 2).dueShownWhole(1, 1, 4, 0, 3, 2);
        Probe x = net(MOST, 1023, MOST_SUM).dueShown(0, 0, 9, MOST_SUM, 1).dueShown(0, 1, 8, 0, 1);
        x.dueShown(512, 0, 9, 0, 1).dueShown(512, 0, 8, MOST_SUM, 1).dueShown(511, 1, 8, MOST_SUM, 1).dueShown(1, 1, 0, MOST_SUM, 1);
        x = net(4, 3, 1, 6, 1, 5, 1);
        for (int set = 0; set < 16; set++) {
            x.dueShown(set, 0, 0, 1, 2).dueShown(set, 0, 1, 1, 2).dueShown(set, 0, 2, 1, 2).dueShown(set, 0, 3, 0, 1);
        }
        x = net(5, 7, 1, 11, 1, 13, 1).dueShown(16, 0, 0, 0, 1).dueShown(16, 0, 1, 1, 2).dueShown(16, 0, 3, 1, 2).dueShown(16, 0, 4, 0, 1);
        x.dueShownWhole(14, 0, 1, 0, 0, 0, 0);
    }

    private static void settledAndKnown() {
        says("A LINE is SETTLED, if LEAST and GREATEST of it alone are the same");
        net(3, 3, 0).dueInTurn("settled", 1, 1, 0).due(2, "count", 5).does("sum", 0, 1).dueInTurn("settled", 0, 0, 0).due(0, "count", 5);
        net(3, 3, 1, 6, 1, 5, 1).dueInTurn("settled", 1, 1, 1).due(3, "count", 5).does("on", 0, 0).dueInTurn("settled", 0, 0, 0);
        net(4, 3, 5, 12, 5, 5, 10).dueInTurn("settled", 1, 1, 1, 1).does("sum", 2, 9).dueInTurn("settled", 0, 0, 0, 0);
        netWithout(0, MOST, GREAT_LOWER_NUMBER, ITS_SUMS).due(MOST, "count", 5).due(1, "settled", 9);
        // The same DELAYS at both ends, though reached by other LINES.
        net(4, 13, 2, 3, 1, 10, 3).dueInTurn("settled", 1, 1, 1, 1).due(4, "count", 5);
        // The same upper number at both ends, but not the same lower one.
        net(4, 12, 1, 10, 2, 7, 2).dueBound(8, 0, 1, 2).dueBound(8, 1, 1, 1).dueInTurn("settled", 0, 0, 0, 0).due(0, "count", 5);
        net(4, 12, 2, 10, 3, 7, 3).dueBound(8, 0, 1, 1).dueBound(8, 1, 2, 1).dueInTurn("settled", 0, 0, 0, 0).due(0, "count", 5);
        withLines(MOST).due(0, "count", 5).due(0, "settled", 0).due(0, "settled", 9);

        says("KNOWN by some WAYS, if whole numbers or fractions times these, put together, are just this LINE");
        withLines(2).dueInTurn("known", 0, 0).due(0, "count", 6);
        net(3, 3, 1, 6, 1, 5, 1).dueInTurn("known", 1, 1, 1).due(3, "count", 6).does("on", 0, 0).dueInTurn("known", 0, 0, 0);
        net(3, 7, 5, 3, 5).dueInTurn("known", 0, 0, 1).due(1, "count", 6);
        net(2, 3, 0).dueInTurn("known", 0, 0).dueInTurn("settled", 1, 1);
        net(4, 3, 5, 12, 5, 5, 10).due(0, "count", 6).due(4, "count", 5);
        netWithout(0, MOST, GREATEST_DETERMINANT, new int[MOST]).due(MOST, "count", 6).due(1, "known", 0).due(1, "known", 9);
        netWithout(0, MOST, WRAPPING_OF_RANK_TEN, new int[MOST]).due(MOST, "count", 6);
        netWithout(0, MOST, WRAPPING_OF_RANK_NINE, new int[MOST]).dueInTurn("known", 1, 0, 0, 0, 0, 0, 0, 0, 0, 0);
        netWithout(0, MOST, WRAPPING_WITHOUT_KNOWN, new int[MOST]).due(0, "count", 6);

        says("so that it is SETTLED whatever the SUMS are, if there is a SOLUTION");
        Probe x = net(2, 3, 4, 1, 4).dueInTurn("known", 1, 1).dueInTurn("settled", 1, 1);
        x.does("sum", 0, 3).dueInTurn("known", 1, 1).dueInTurn("settled", STATE, STATE);
    }

    private static void rankAndGroups() {
        says("RANK of WAYS: how many of them at most are such that none is put together of others of these");
        withLines(MOST).due(0, "count", 3);
        oneLiarOfTen(3).due(1, "count", 3);
        net(2, 1, 0, 2, 0, 3, 0).due(2, "count", 3);
        net(4, 3, 0, 12, 0, 15, 0).due(2, "count", 3).does("on", 0, 0).due(2, "count", 3).does("on", 1, 0).due(1, "count", 3);
        // Of remainders by 2 these three would be two.
        net(3, 3, 0, 6, 0, 5, 0).due(3, "count", 3);
        netWithout(0, MOST, GREATEST_DETERMINANT, new int[MOST]).due(MOST, "count", 3).does("on", 9, 0).due(9, "count", 3);
        netWithout(0, MOST, WRAPPING_OF_RANK_TEN, new int[MOST]).due(MOST, "count", 3);
        netWithout(0, MOST, WRAPPING_OF_RANK_NINE, new int[MOST]).due(9, "count", 3);
        netWithout(0, MOST, WRAPPING_WITHOUT_KNOWN, new int[MOST]).due(9, "count", 3);
        Probe x = withLines(MOST);
        for (int k = 0; k < MOST; k++) {
            x.does("way", 1 << k, 0).due(k + 1, "count", 3);
        }

        says("LINES are ALIKE, if the same WAYS that are ON are over them; a GROUP are all that are ALIKE");
        withLines(MOST).due(1, "count", 7).due(1023, "group", 0).due(1023, "group", 9);
        net(MOST, 1023, 1).due(1, "count", 7).due(1023, "group", 9);
        x = withLines(MOST);
        for (int k = 0; k < MOST - 1; k++) {
            x.due(k + 1, "count", 7).does("way", 1 << k, 5);
        }
        x.due(MOST, "count", 7).due(512, "group", 9).does("way", 512, 5).due(MOST, "count", 7).due(512, "group", 9);
        x.does("on", 9, 0).does("on", 0, 0).due(9, "count", 7).due(513, "group", 0).due(513, "group", 9).due(2, "group", 1);
        net(4, 3, 5, 3, 9).due(3, "group", 0).due(12, "group", 3).due(2, "count", 7);
    }

    private static void lyingSets() {
        says("LYING: SETS of WAYS that are ON, as few as can be, without which there is a SOLUTION");
        net(1, 1, 5, 1, 5, 1, 6).dueList("lying", 4).does("on", 0, 0).dueList("lying", 2, 4).does("on", 2, 0).dueList("lying", 0);
        net(2, 3, 4, 1, 5).dueList("lying", 1, 2).does("sum", 1, 4).dueList("lying", 0);
        net(3, 3, 10, 6, 1, 5, 1).dueList("lying", 1, 2, 4);
        Probe x = withLines(1);
        for (int w = 0; w < MOST; w++) {
            x.does("way", 1, w);
        }
        x.dueList("lying", 511, 767, 895, 959, 991, 1007, 1015, 1019, 1021, 1022);
        x = withLines(5);
        for (int w = 0; w < MOST; w++) {
            x.does("way", 1 << w / 2, w);
        }
        x.due(32, "lying", NONE).due(341, "lying", 0).due(342, "lying", 1).due(682, "lying", 31).due(OUTSIDE, "lying", 32);

        says("LYING SETS, by rising numbers");
        List<Integer> five = new ArrayList<>();
        for (int left = 0; left < 1024; left++) {
            int size = Integer.bitCount(left);
            boolean fits = size <= 5 && netWithout(left, 5, MANY_LIARS, THEIR_SUMS).call("fits") == 1;
            Probe.must(!fits || size == 5, "as few as five lie: " + left);
            if (fits) {
                five.add(left);
            }
        }
        Probe.must(five.size() == 190, "190 SETS of five");
        netWithout(0, 5, MANY_LIARS, THEIR_SUMS).dueList("lying", longs(five));
    }

    private static void offersAndAdvice() {
        says("OFFERS (10 at most)");
        Probe x = withLines(3);
        for (int i = 0; i < MOST; i++) {
            x.due(i, "offer", 7).due(i + 1, "count", 8);
        }
        x.due(FULL, "offer", 7).due(FULL, "offer", 1).due(MOST, "count", 8).due(7, "offered", 9, 1).due(FULL, "offer", 1);
        x.due(0, "way", 7, 1).due(0, "back").due(FULL, "offer", 1).does("lines", 3).due(0, "offer", 1);

        says("SETS of LINES (not empty) that could be measured");
        offers(2, 1, 2).dueInTurn("count", 2, 0, 0, 0, 0, 0, 0, 1, 2).due(0, "known", 0).due(3, "group", 0).due(ENDLESS, "bound", 1, 1, 0);

        says("THE ADVICE for a SET of LINES: the SET of OFFERS, as few as can be");
        offers(2, 3, 2, 1).due(4, "advice", 1).due(2, "advice", 2).due(3, "advice", 3);
        offers(3, 1, 2, 4, 7).due(1, "advice", 1).due(7, "advice", 7).due(3, "advice", 3);
        x = offers(MOST, 1, 2, 4, 8, 16, 32, 64, 128, 256, 512).due(1023, "advice", 1023).due(512, "advice", 512);
        x.does("way", 1023, 1).due(511, "advice", 1023).does("on", 0, 0).due(1023, "advice", 1023);
        offers(MOST, GREATEST_DETERMINANT).due(1023, "advice", 1023);
        offers(MOST, WRAPPING_OF_RANK_TEN).due(1023, "advice", 1023);
        offers(MOST, WRAPPING_WITHOUT_KNOWN).due(NONE, "advice", 1).due(NONE, "advice", 512).due(NONE, "advice", 1023);

        says("of several the least number");
        offers(1, 1, 1, 1).due(1, "advice", 1);
        offers(2, 2, 1, 1).due(2, "advice", 1).due(3, "advice", 3);
        offers(3, 3, 5, 4, 2).due(6, "advice", 1).due(12, "advice", 6);
        offers(2, 3, 3, 3, 3, 3, 3, 3, 3, 2, 1).due(512, "advice", 1).due(257, "advice", 3);

        says("so that all those LINES are KNOWN by the WAYS that are ON and these OFFERS");
        x = net(3, 3, 0, 4, 1).does("offer", 5).does("offer", 2).due(0, "advice", 4).due(1, "advice", 1).due(1, "advice", 7);
        x.does("on", 0, 0).due(1, "advice", 1).due(2, "advice", 2).due(3, "advice", 7).does("on", 1, 0).due(NONE, "advice", 1);
        net(1, 1, 5, 1, 6).due(0, "advice", 1).due(0, "fits");
        net(2, 3, 0).due(NONE, "advice", 1).due(1, "settled", 0);
    }

    private static void sickSets() {
        says("SICK: SETS of LINES, as few as can be");
        badWays(4, 3, 5, 9).dueList("sick", 1);
        badWays(3, 5, 6).dueList("sick", 4);
        badWays(MOST, 513, 514, 516, 520, 528, 544, 576, 640, 768).dueList("sick", 512);
        badWays(4, 3, 12).dueList("sick", 5, 6, 9, 10);
        badWays(MOST, 1023).dueList("sick", 1, 2, 4, 8, 16, 32, 64, 128, 256, 512);
        badWays(MOST, 1, 2, 4, 8, 16, 32, 64, 128, 256, 512).dueList("sick", 1023);

        says("so that each WAY that is ON and BAD is over one of them");
        withLines(MOST).dueList("sick", 0);
        badWays(2, 1, 2).dueList("sick", 3).does("on", 1, 0).dueList("sick", 1).does("on", 0, 0).dueList("sick", 0);

        says("and none that is ON and GOOD is");
        net(2, 1, 1, 3, 1).does("bad", 1, 1).dueList("sick", 2).does("on", 0, 0).dueList("sick", 1, 2);
        oneBadOfTen().dueList("sick", 512);
        net(2, 3, 1).dueList("sick", 0).does("way", 1, 1).does("bad", 0, 1).dueList("sick", 2);
        Probe x = badWays(2, 3).does("way", 3, 1).dueList("sick").does("on", 1, 0).dueList("sick", 1, 2);
        x.does("on", 1, 1).does("over", 1, 1).dueList("sick", 2).does("bad", 1, 1).dueList("sick", 1);
        x = badWays(MOST, 512, 1).does("way", 510, 1).dueList("sick", 513).does("over", 2, 1023).dueList("sick");

        says("SICK SETS, by rising numbers");
        List<Integer> three = new ArrayList<>();
        for (int set = 0; set < 1024; set++) {
            boolean meetsAll = true;
            for (int way : MANY_SICK) {
                meetsAll &= (way & set) != 0;
            }
            if (meetsAll && Integer.bitCount(set) == 3) {
                three.add(set);
            }
        }
        Probe.must(three.size() == 57, "57 SETS of three");
        badWays(MOST, MANY_SICK).dueList("sick", longs(three));
    }

    /** Nine GOOD WAYS clear all LINES of the BAD one but the last. */
    private static Probe oneBadOfTen() {
        Probe x = withLines(MOST);
        for (int w = 0; w < MOST - 1; w++) {
            x.does("way", 1 << w, 1);
        }
        return x.does("way", 1023, 1).does("bad", MOST - 1, 1);
    }

    private static void duePair(int n, int a, int b, int both, long... shares) {
        Probe x = new Probe();
        for (int i = 0; i < shares.length; i++) {
            x.due(shares[i], "pair", n, a, b, both, i / 2, i % 2);
        }
    }

    private static void pairs() {
        says("SHARES: of the common part a b / (n both), of the one way behind it both / b, of the other one both / a");
        duePair(1000, 500, 400, 250, 4, 5, 5, 8, 1, 2);
        duePair(1000, 400, 500, 250, 4, 5, 1, 2, 5, 8);
        duePair(7, 5, 3, 2, 15, 14, 2, 3, 2, 5);
        duePair(1, 1, 1, 1, 1, 1, 1, 1, 1, 1);

        says("n, a, b, both (0 .. 1000000");
        int m = MOST_SENT;
        duePair(m, m, m, m, 1, 1, 1, 1, 1, 1);
        duePair(m, m, m, 1, m, 1, 1, m, 1, m);
        duePair(m, 1, 1, 1, 1, m, 1, 1, 1, 1);
        duePair(m, m - 1, m - 17, 1, 999982000017L, m, 1, m - 17, 1, m - 1);
        duePair(m, m - 1, m - 1, m - 3, 999998000001L, 999997000000L, m - 3, m - 1, m - 3, m - 1);
        // A product of ints would be 0 here.
        duePair(65536, 65536, 65536, 65536, 1, 1, 1, 1, 1, 1);
        duePair(m + 1, m + 1, m + 1, m + 1, OUTSIDE, OUTSIDE, OUTSIDE, OUTSIDE, OUTSIDE, OUTSIDE);
        for (int number : Probe.beyond(0, m)) {
            Probe x = new Probe().due(OUTSIDE, "pair", number, 1, 1, 1, 0, 0).due(OUTSIDE, "pair", m, number, 1, 1, 0, 0);
            x.due(OUTSIDE, "pair", m, 1, number, 1, 0, 0).due(OUTSIDE, "pair", m, m, m, number, 0, 0);
            x.due(OUTSIDE, "pair", number, number, number, number, 1, 0).due(OUTSIDE, "pair", number, 0, 0, 0, 2, 1);
            x.due(OUTSIDE, "pair", m, number, 0, 0, 0, 0).due(OUTSIDE, "pair", m, 0, number, 0, 0, 0);
        }

        says("both not above a, b");
        duePair(10, 4, 5, 4, 1, 2, 4, 5, 1, 1);
        duePair(10, 4, 5, 5, OUTSIDE, OUTSIDE, OUTSIDE, OUTSIDE, OUTSIDE, OUTSIDE);
        duePair(10, 5, 4, 5, OUTSIDE, OUTSIDE, OUTSIDE, OUTSIDE, OUTSIDE, OUTSIDE);
        duePair(10, 0, 5, 1, OUTSIDE, OUTSIDE, OUTSIDE, OUTSIDE, OUTSIDE, OUTSIDE);
        duePair(10, 5, 0, 1, OUTSIDE, OUTSIDE, OUTSIDE, OUTSIDE, OUTSIDE, OUTSIDE);

        says("these not above n");
        duePair(5, 5, 4, 3, 4, 3, 3, 4, 3, 5);
        duePair(5, 4, 5, 3, 4, 3, 3, 5, 3, 4);
        duePair(5, 6, 4, 3, OUTSIDE, OUTSIDE, OUTSIDE, OUTSIDE, OUTSIDE, OUTSIDE);
        duePair(5, 4, 6, 3, OUTSIDE, OUTSIDE, OUTSIDE, OUTSIDE, OUTSIDE, OUTSIDE);
        duePair(0, 1, 1, 1, OUTSIDE, OUTSIDE, OUTSIDE, OUTSIDE, OUTSIDE, OUTSIDE);

        says("both above 0: STATE else");
        duePair(10, 5, 4, 0, STATE, STATE, STATE, STATE, STATE, STATE);
        duePair(10, 0, 0, 0, STATE, STATE, STATE, STATE, STATE, STATE);
        duePair(0, 0, 0, 0, STATE, STATE, STATE, STATE, STATE, STATE);
        duePair(m, m, m, 0, STATE, STATE, STATE, STATE, STATE, STATE);
        duePair(10, 5, 4, 1, 2, 1, 1, 4, 1, 5);

        says("Fractions are told in least terms, the lower number above 0");
        duePair(12, 6, 8, 4, 1, 1, 1, 2, 2, 3);
        net(2, 3, 0).dueBound(1, 0, 0, 1).dueBound(3, 1, 0, 1).dueShown(3, 0, 1, 0, 1);
        net(3, 3, 2, 6, 2, 5, 2).dueBound(1, 0, 1, 1).dueBound(7, 1, 3, 1).dueBound(3, 0, 2, 1).dueShown(0, 0, 2, 1, 1);
        net(4, 7, 3, 11, 3, 13, 3, 14, 4).dueBound(1, 0, 1, 3).dueBound(8, 1, 4, 3).dueShown(15, 1, 1, 4, 3).dueBound(14, 0, 4, 1);
    }

    // ---- Promises

    private static void promisesOfTheNet() {
        says("Promise 1: 4 LINES; no WAYS, no OFFERS");
        new Probe().dueInTurn("count", 4, 0, 0, 0, 0, 0, 0, 1, 0).due(UNKNOWN, "told", 0, 0).due(UNKNOWN, "offered", 0, 1).due(STATE, "back");
        Probe x = new Probe();
        new Probe().does("lines", 9).does("way", 1, 1).does("offer", 1);
        x.dueInTurn("count", 4, 0, 0, 0, 0, 0, 0, 1, 0);
        twoObjectsInTurn();

        says("Promise 2: n LINES; no WAYS, no OFFERS any more: how many LINES there were");
        for (int n : new int[] {1, 9, MOST}) {
            x = netWithout(0, MOST, GREATEST_DETERMINANT, ITS_SUMS).does("bad", 9, 1).does("on", 0, 0);
            for (int i = 0; i < MOST; i++) {
                x.does("offer", 1);
            }
            x.does("fits").does("lying", NONE).due(MOST, "lines", n).dueInTurn("count", n, 0, 0, 0, 0, 0, 0, 1, 0);
            x.due(UNKNOWN, "told", 0, 0).due(UNKNOWN, "offered", 0, 1).due(STATE, "back").due(1, "fits").dueList("lying", 0);
            x.dueList("sick", 0).due(NONE, "advice", 1).due(0, "way", 1, 3).dueWay(0, 1, 3, 1, 0).due(0, "offer", 1).due(n, "lines", 4);
        }

        says("Promise 3: A WAY over a SET with a SUM: its number");
        x = net(2, 1, 5).does("bad", 0, 1).does("on", 0, 0).due(1, "way", 3, 0).dueWay(0, 1, 5, 0, 1).dueWay(1, 3, 0, 1, 0);
        x.due(2, "way", 3, 0).dueWay(2, 3, 0, 1, 0).due(3, "count", 1).dueBound(3, 1, 0, 1);

        says("Promise 4: Its SUM becomes v: what it was");
        x = net(2, 1, 5, 2, 6).due(5, "sum", 0, 7).due(7, "sum", 0, 7).due(7, "sum", 0, 0).dueWay(0, 1, 0, 1, 0).dueWay(1, 2, 6, 1, 0);
        x.does("on", 1, 0).does("bad", 1, 1).due(6, "sum", 1, MOST_SUM).dueWay(1, 2, MOST_SUM, 0, 1).dueBound(3, 0, 0, 1);

        says("Promise 5: It is over another SET from now on: the one that it was over");
        x = net(2, 1, 5, 2, 6).due(1, "over", 0, 3).due(3, "over", 0, 3).due(3, "over", 0, 1).dueWay(0, 1, 5, 1, 0).dueWay(1, 2, 6, 1, 0);
        x.does("on", 1, 0).does("bad", 1, 1).due(2, "over", 1, 1).dueWay(1, 1, 6, 0, 1).due(1, "fits").does("on", 1, 1).due(0, "fits");

        says("Promise 6: It is ON from now on, or not: 1 if it was, 0");
        x = net(2, 1, 5, 2, 6).does("bad", 0, 1).due(1, "on", 0, 1).due(1, "on", 0, 0).due(0, "on", 0, 0).dueWay(0, 1, 5, 0, 1);
        x.dueWay(1, 2, 6, 1, 0).due(0, "on", 0, 1).due(1, "on", 0, 1).dueWay(0, 1, 5, 1, 1);

        says("Promise 7: It is BAD from now on, or GOOD: 1 if it was BAD, 0");
        x = net(2, 1, 5, 2, 6).does("on", 0, 0).due(0, "bad", 0, 0).due(0, "bad", 0, 1).due(1, "bad", 0, 1).dueWay(0, 1, 5, 0, 1);
        x.dueWay(1, 2, 6, 1, 0).due(1, "bad", 0, 0).due(0, "bad", 0, 0).dueWay(0, 1, 5, 0, 0);

        says("Promise 8: The last WAY is there no more: how many are left. STATE: there is none");
        x = oneLiarOfTen(9).does("offer", 1).does("bad", 8, 1).due(0, "fits").due(9, "back").due(1, "fits").dueWay(8, 1, 5, 1, 1);
        for (int left = 8; left >= 0; left--) {
            x.due(UNKNOWN, "told", left + 1, 0).due(left, "back").due(left, "count", 1).due(left, "count", 2);
        }
        x.due(STATE, "back").due(STATE, "back").due(ENDLESS, "bound", 1, 1, 0).due(1, "count", 8).due(0, "way", 1, 7);
        x.dueWay(0, 1, 7, 1, 0).due(0, "back").due(STATE, "back");

        says("Promise 9: Of WAY w: 0 its SET, 1 its SUM, 2 whether it is ON, 3 BAD");
        x = oneLiarOfTen(9).dueWay(0, 1, 5, 1, 0).dueWay(9, 1, 6, 1, 0).does("on", 9, 0).does("bad", 9, 1).dueWay(9, 1, 6, 0, 1);
        for (int what : Probe.beyond(0, 3)) {
            x.due(OUTSIDE, "told", 0, what).due(OUTSIDE, "told", 9, what);
        }
        for (int w : Probe.beyond(0, 9)) {
            x.due(UNKNOWN, "told", w, 0).due(UNKNOWN, "told", w, 3);
        }
    }

    /** Two nets with the same SETS, but with other SUMS, OFFERS and BAD WAYS. */
    private static void twoObjectsInTurn() {
        Probe x = net(3, 3, 10, 6, 7, 5, 9).does("offer", 1);
        Probe y = net(3, 3, 10, 6, 7, 5, 20).does("bad", 0, 1).does("bad", 2, 1);
        for (int turn = 0; turn < 3; turn++) {
            x.due(1, "fits").dueList("lying", 0).dueBound(1, 0, 6, 1).due(3, "count", 5).dueShown(7, 0, 1, 4, 1);
            y.due(0, "fits").dueList("lying", 1, 2, 4).due(STATE, "bound", 1, 0, 0).due(STATE, "count", 5).due(STATE, "settled", 1);
            x.due(1, "settled", 1).dueList("sick", 0).due(1, "count", 8).due(0, "advice", 7);
            y.dueList("sick", 1).due(0, "count", 8).due(UNKNOWN, "offered", 0, 1);
        }
        x.does("on", 0, 0).due(1, "advice", 7).due(3, "count", 1);
        y.due(0, "advice", 7).due(3, "count", 2).does("lines", 2);
        x.due(3, "count", 0).dueBound(1, 0, 2, 1).dueBound(1, 1, 9, 1);
    }

    private static void promiseOfCount() {
        says("Promise 10: How many: 0 LINES .. 8 OFFERS. OUTSIDE");
        Probe x = netWithout(0, MOST, GREAT_LOWER_NUMBER, ITS_SUMS);
        for (int i = 0; i < MOST; i++) {
            x.does("offer", 1);
        }
        x.dueInTurn("count", 10, 10, 10, 10, 10, 10, 10, 10, 10).does("on", 9, 0).due(10, "count", 1).due(9, "count", 2).due(9, "count", 3);
        withLines(1).dueInTurn("count", 1, 0, 0, 0, 0, 0, 0, 1, 0).does("way", 1, 0).dueInTurn("count", 1, 1, 1, 1, 1, 1, 1, 1, 0);
        for (int what : Probe.beyond(0, 8)) {
            x.due(OUTSIDE, "count", what);
        }

        says("Promise 10: 5 SETTLED (STATE: there is no SOLUTION)");
        x = net(2, 3, 5, 1, 6).dueInTurn("count", 2, 2, 2, 2, 2, STATE, 2, 2, 0).does("sum", 1, 5);
        x.dueInTurn("count", 2, 2, 2, 2, 2, 2, 2, 2, 0);
        net(1, 1, 5, 1, 6).dueInTurn("count", 1, 2, 2, 1, 1, STATE, 1, 1, 0).does("on", 0, 0).due(1, "count", 5);
    }

    private static void promisesOfWhatLiesWithin() {
        says("Promise 11: Whether there is a SOLUTION: 1, 0");
        new Probe().due(1, "fits").due(1, "fits");
        net(1, 1, 0).due(1, "fits").does("way", 1, 1).due(0, "fits").due(0, "fits").does("on", 0, 0).due(1, "fits");
        oneLiarOfTen(0).due(0, "fits").does("on", 0, 0).due(1, "fits");

        says("Promise 12: Of a SET of LINES (it may be empty)");
        new Probe().dueBound(0, 0, 0, 1).dueBound(0, 1, 0, 1);
        net(2, 1, 5).dueBound(0, 0, 0, 1).dueBound(0, 1, 0, 1);
        for (int n = 1; n <= MOST; n++) {
            int all = Probe.all(n);
            Probe x = net(n, all, 7).dueBound(all, 0, 7, 1).dueBound(all, 1, 7, 1).dueBound(0, 1, 0, 1);
            for (int set : Probe.beyond(0, all)) {
                x.due(OUTSIDE, "bound", set, 0, 0).due(OUTSIDE, "bound", set, 1, 1);
            }
        }

        says("Promise 12: end = 0 LEAST, 1 GREATEST; what = 0 the upper number, 1 the lower one. OUTSIDE");
        Probe x = net(3, 3, 10, 6, 7).dueBound(1, 0, 3, 1).dueBound(1, 1, 10, 1);
        for (int other : Probe.beyond(0, 1)) {
            x.due(OUTSIDE, "bound", 1, other, 0).due(OUTSIDE, "bound", 1, 0, other).due(OUTSIDE, "bound", 1, 1, other);
            x.due(OUTSIDE, "shown", 1, other, 0, 0).due(OUTSIDE, "shown", 1, 0, 0, other).due(OUTSIDE, "shown", 1, 1, 2, other);
        }

        says("Promise 12: STATE: there is no SOLUTION");
        x = net(2, 1, 5, 1, 6);
        for (int set = 0; set < 4; set++) {
            x.due(STATE, "bound", set, 0, 0).due(STATE, "bound", set, 0, 1).due(STATE, "bound", set, 1, 0).due(STATE, "bound", set, 1, 1);
        }
        x.does("on", 1, 0).dueBound(1, 1, 5, 1).due(ENDLESS, "bound", 2, 1, 0);

        says("Promise 13: DELAY of LINE k in THE SHOWN SOLUTION of that, likewise");
        new Probe().dueShownWhole(0, 0, 0, 0, 0, 0).dueShownWhole(0, 1, 0, 0, 0, 0).dueShownWhole(15, 0, 0, 0, 0, 0);
        net(3, 3, 4).dueShownWhole(0, 0, 0, 4, 0).dueShownWhole(0, 1, 0, 4, 0).dueShownWhole(4, 0, 0, 4, 0).dueShownWhole(1, 1, 4, 0, 0);
        for (int n = 1; n <= MOST; n++) {
            shownAtTheLastLine(n);
        }

        says("Promise 13: STATE, ENDLESS");
        x = net(2, 1, 5).due(ENDLESS, "shown", 2, 1, 0, 0).due(ENDLESS, "shown", 3, 1, 0, 1).due(ENDLESS, "shown", 3, 1, 1, 0);
        x.dueShownWhole(3, 0, 5, 0).dueShownWhole(1, 1, 5, 0).does("way", 1, 6).due(STATE, "shown", 1, 0, 0, 0).due(STATE, "shown", 0, 1, 1, 1);

        says("Promise 14: Whether a LINE is SETTLED: 1, 0. UNKNOWN, STATE: there is no SOLUTION");
        x = net(2, 1, 5).dueInTurn("settled", 1, 0).does("way", 1, 6).dueInTurn("settled", STATE, STATE).does("back").dueInTurn("settled", 1, 0);

        says("Promise 15: Whether it is KNOWN by the WAYS that are ON: 1, 0. UNKNOWN");
        x = net(2, 1, 5).dueInTurn("known", 1, 0).does("way", 1, 6).dueInTurn("known", 1, 0).does("on", 0, 0).dueInTurn("known", 1, 0);
        x.does("on", 1, 0).dueInTurn("known", 0, 0);

        says("Promise 16: The GROUP of a LINE, as a SET. UNKNOWN");
        for (int n = 1; n <= MOST; n++) {
            noSuchLine(n);
        }
    }

    private static void shownAtTheLastLine(int n) {
        int all = Probe.all(n);
        Probe x = net(n, all, 7).dueShown(all, 1, n - 1, 7, 1).dueShown(0, 0, n - 1, 7, 1).dueShown(all, 0, 0, n == 1 ? 7 : 0, 1);
        for (int k : Probe.beyond(0, n - 1)) {
            x.due(UNKNOWN, "shown", all, 0, k, 0).due(UNKNOWN, "shown", 0, 1, k, 1);
        }
        for (int set : Probe.beyond(0, all)) {
            x.due(OUTSIDE, "shown", set, 0, 0, 0).due(OUTSIDE, "shown", set, 1, n - 1, 1);
        }
    }

    private static void noSuchLine(int n) {
        Probe x = net(n, 1 << n - 1, 3).due(1 << n - 1, "group", n - 1).due(1, "settled", n - 1).due(1, "known", n - 1);
        x.due(n == 1 ? 1 : Probe.all(n - 1), "group", 0).due(n == 1 ? 1 : 0, "settled", 0).due(n == 1 ? 1 : 0, "known", 0);
        for (int k : Probe.beyond(0, n - 1)) {
            x.due(UNKNOWN, "group", k).due(UNKNOWN, "settled", k).due(UNKNOWN, "known", k);
        }
    }

    private static void promisesOfMetersThatLie() {
        says("Promise 17: i = NONE how many there are; else the i-th one. OUTSIDE");
        Probe x = net(1, 1, 5, 1, 6, 1, 7).due(3, "lying", NONE).dueInTurn("lying", 3, 5, 6);
        for (int i : Probe.beyond(-1, 2)) {
            x.due(OUTSIDE, "lying", i);
        }
        x.does("sum", 0, 6).due(1, "lying", NONE).due(4, "lying", 0).due(OUTSIDE, "lying", 1);

        says("Promise 17: (One that is empty, if there is a SOLUTION.)");
        x = new Probe().due(1, "lying", NONE).due(0, "lying", 0);
        for (int i : Probe.beyond(-1, 0)) {
            x.due(OUTSIDE, "lying", i);
        }
        net(1, 1, 5).dueList("lying", 0).does("way", 1, 5).dueList("lying", 0).does("on", 0, 0).does("on", 1, 0).dueList("lying", 0);
        net(1, 1, 5, 1, 6).does("on", 0, 0).dueList("lying", 0).does("on", 0, 1).dueList("lying", 1, 2);

        says("Promise 18: An OFFER: its number. OUTSIDE, FULL");
        x = net(2, 1, 5).due(0, "offer", 1).due(1, "offer", 1).due(2, "offer", 3).due(3, "count", 8).dueWay(0, 1, 5, 1, 0);

        says("Promise 19: OFFER i is over another SET from now on: the one that it was over. UNKNOWN");
        x.due(1, "offered", 0, 2).due(2, "offered", 0, 2).due(2, "offered", 0, 3).due(1, "offered", 1, 1).due(3, "offered", 2, 2);
        x.due(3, "count", 8).due(1, "advice", 2).due(3, "offered", 0, 1).due(4, "advice", 2).due(1, "offered", 0, 2).due(1, "advice", 2);
        for (int i : Probe.beyond(0, 2)) {
            x.due(UNKNOWN, "offered", i, 1);
        }
        x = offers(MOST, GREATEST_DETERMINANT).due(55, "offered", 9, 1023).due(1023, "offered", 9, 1);
        for (int i : Probe.beyond(0, 9)) {
            x.due(UNKNOWN, "offered", i, 1);
        }

        says("Promise 20: THE ADVICE for a SET of LINES (it may be empty)");
        new Probe().due(0, "advice", 0);
        offers(2, 1, 2).due(0, "advice", 0).does("way", 3, 1).due(0, "advice", 0);

        says("Promise 20: NONE: there is none");
        new Probe().due(NONE, "advice", 1).due(NONE, "advice", 15);
        offers(3, 1, 6).due(1, "advice", 1).due(NONE, "advice", 2).due(NONE, "advice", 3).due(NONE, "advice", 7).does("way", 2, 0).due(3, "advice", 7);

        says("Promise 20: OUTSIDE");
        for (int n = 1; n <= MOST; n++) {
            int all = Probe.all(n);
            x = offers(n, all).due(n == 1 ? 1 : NONE, "advice", all).due(0, "advice", 0);
            for (int set : Probe.beyond(0, all)) {
                x.due(OUTSIDE, "advice", set);
            }
        }
    }

    private static void promisesOfSickLinesAndShares() {
        says("Promise 21: i = NONE how many there are; else the i-th one. OUTSIDE");
        Probe x = badWays(3, 7).due(3, "sick", NONE).dueInTurn("sick", 1, 2, 4);
        for (int i : Probe.beyond(-1, 2)) {
            x.due(OUTSIDE, "sick", i);
        }
        x.does("bad", 0, 0).dueList("sick", 0);

        says("Promise 21: (0: none explains it)");
        x = badWays(3, 7).does("way", 7, 1).due(0, "sick", NONE);
        for (int i : Probe.beyond(-1, -1)) {
            x.due(OUTSIDE, "sick", i);
        }
        x.does("on", 0, 0).dueList("sick", 0).does("on", 0, 1).does("on", 1, 0).dueList("sick", 1, 2, 4);

        says("Promise 22: part = 0 the common one, 1, 2; what as for bound(). OUTSIDE");
        x = new Probe();
        for (int part : Probe.beyond(0, 2)) {
            x.due(OUTSIDE, "pair", 10, 5, 4, 3, part, 0).due(OUTSIDE, "pair", 10, 5, 4, 3, part, 1);
        }
        for (int what : Probe.beyond(0, 1)) {
            x.due(OUTSIDE, "pair", 10, 5, 4, 3, 0, what).due(OUTSIDE, "pair", 10, 5, 4, 3, 1, what).due(OUTSIDE, "pair", 10, 5, 4, 3, 2, what);
        }
        x.due(2, "pair", 10, 5, 4, 3, 0, 0).due(3, "pair", 10, 5, 4, 3, 0, 1).due(3, "pair", 10, 5, 4, 3, 1, 0).due(5, "pair", 10, 5, 4, 3, 2, 1);
    }
}
