/** For each promise of the document: ordinary inputs, the edges that it names, and wrong inputs. */
public final class EndMetersPromises {
    private static final int NONE = -1, UNKNOWN = -101, OUTSIDE = -102, STATE = -103, FULL = -104, ENDLESS = -105;
    private static final int LOW = Integer.MIN_VALUE, HIGH = Integer.MAX_VALUE;
    private static int wrong = 0;
    private static int promise = 0;

    public static void main(String[] args) {
        newObject();
        lines();
        way();
        sum();
        over();
        on();
        bad();
        back();
        told();
        count();
        fits();
        bound();
        shown();
        settled();
        known();
        group();
        lying();
        offer();
        offered();
        advice();
        sick();
        pair();
        constants();
        System.out.println(wrong == 0 ? "all promises hold" : wrong + " answers are not as due");
        if (wrong != 0) {
            System.exit(1);
        }
    }

    private static void due(String call, long got, long want) {
        if (got != want) {
            wrong++;
            System.out.println("promise " + promise + ": " + call + " answered " + got + ", due is " + want);
        }
    }

    private static EndMeters start(int number, int lines) {
        promise = number;
        EndMeters x = new EndMeters();
        due("lines", x.lines(lines), 4);
        return x;
    }

    private static void constants() {
        promise = 0;
        due("NONE", EndMeters.NONE, NONE);
        due("UNKNOWN", EndMeters.UNKNOWN, UNKNOWN);
        due("OUTSIDE", EndMeters.OUTSIDE, OUTSIDE);
        due("STATE", EndMeters.STATE, STATE);
        due("FULL", EndMeters.FULL, FULL);
        due("ENDLESS", EndMeters.ENDLESS, ENDLESS);
    }

    private static void newObject() {
        promise = 1;
        EndMeters x = new EndMeters();
        int[] counts = {4, 0, 0, 0, 0, 0, 0, 1, 0};
        for (int what = 0; what < counts.length; what++) {
            due("count(" + what + ")", x.count(what), counts[what]);
        }
        due("told(0, 0)", x.told(0, 0), UNKNOWN);
        due("group(3)", x.group(3), 15);
        due("group(4)", x.group(4), UNKNOWN);
        due("fits()", x.fits(), 1);
        due("offered(0, 1)", x.offered(0, 1), UNKNOWN);
        due("shown(15, 0, 3, 0)", x.shown(15, 0, 3, 0), 0);
        due("shown(15, 0, 3, 1)", x.shown(15, 0, 3, 1), 1);
        EndMeters other = new EndMeters();
        other.way(1, 1);
        due("count(1) beside another object", x.count(1), 0);
    }

    private static void lines() {
        EndMeters x = start(2, 10);
        x.way(1023, 5);
        x.bad(0, true);
        x.on(0, false);
        x.offer(512);
        for (int n : new int[] {0, 11, -1, LOW, HIGH}) {
            due("lines(" + n + ")", x.lines(n), OUTSIDE);
        }
        due("count(0)", x.count(0), 10);
        due("count(1)", x.count(1), 1);
        due("count(8)", x.count(8), 1);
        due("told(0, 2)", x.told(0, 2), 0);
        due("lines(10) again", x.lines(10), 10);
        due("count(1)", x.count(1), 0);
        due("count(2)", x.count(2), 0);
        due("count(8)", x.count(8), 0);
        due("way(1, 1)", x.way(1, 1), 0);
        due("told(0, 2)", x.told(0, 2), 1);
        due("told(0, 3)", x.told(0, 3), 0);
        due("lines(1)", x.lines(1), 10);
        due("way(2, 1)", x.way(2, 1), OUTSIDE);
        due("way(1, 1)", x.way(1, 1), 0);
        x.way(1, 2);
        due("fits()", x.fits(), 0);
        due("lying(NONE)", x.lying(NONE), 2);
        due("lines(2)", x.lines(2), 1);
        due("fits()", x.fits(), 1);
        due("lying(NONE)", x.lying(NONE), 1);
    }

    private static void way() {
        EndMeters x = start(3, 3);
        due("fits()", x.fits(), 1);
        for (int set : new int[] {0, -1, 8, 1 << 30, LOW, HIGH}) {
            due("way(" + set + ", 1)", x.way(set, 1), OUTSIDE);
        }
        for (int sum : new int[] {-1, 100001, LOW, HIGH}) {
            due("way(1, " + sum + ")", x.way(1, sum), OUTSIDE);
        }
        due("count(1)", x.count(1), 0);
        due("way(7, 100000)", x.way(7, 100000), 0);
        due("bound(7, 1, 0)", x.bound(7, 1, 0), 100000);
        due("way(7, 0)", x.way(7, 0), 1);
        due("fits()", x.fits(), 0);
        for (int w = 2; w < 10; w++) {
            due("way(1, w)", x.way(1, w), w);
            due("told(w, 1)", x.told(w, 1), w);
        }
        due("way(1, 1), the eleventh", x.way(1, 1), FULL);
        due("way(0, 1), the eleventh", x.way(0, 1), OUTSIDE);
        due("way(1, -1), the eleventh", x.way(1, -1), OUTSIDE);
        due("count(1)", x.count(1), 10);
        x.back();
        due("way(2, 2)", x.way(2, 2), 9);
    }

    private static void sum() {
        EndMeters x = start(4, 2);
        x.way(1, 7);
        due("bound(1, 0, 0)", x.bound(1, 0, 0), 7);
        due("sum(0, 100000)", x.sum(0, 100000), 7);
        due("bound(1, 0, 0)", x.bound(1, 0, 0), 100000);
        due("sum(0, 0)", x.sum(0, 0), 100000);
        due("bound(1, 0, 0)", x.bound(1, 0, 0), 0);
        due("sum(0, 100001)", x.sum(0, 100001), OUTSIDE);
        due("sum(0, -1)", x.sum(0, -1), OUTSIDE);
        due("sum(1, 5)", x.sum(1, 5), UNKNOWN);
        due("sum(-1, 5)", x.sum(-1, 5), UNKNOWN);
        due("sum(1, -1)", x.sum(1, -1), UNKNOWN);
        due("sum(HIGH, HIGH)", x.sum(HIGH, HIGH), UNKNOWN);
        due("told(0, 1)", x.told(0, 1), 0);
    }

    private static void over() {
        EndMeters x = start(5, 2);
        x.way(1, 7);
        due("bound(2, 1, 0)", x.bound(2, 1, 0), ENDLESS);
        due("over(0, 3)", x.over(0, 3), 1);
        due("bound(2, 1, 0)", x.bound(2, 1, 0), 7);
        due("told(0, 1)", x.told(0, 1), 7);
        due("over(0, 2)", x.over(0, 2), 3);
        for (int set : new int[] {0, 4, -1, LOW, HIGH}) {
            due("over(0, " + set + ")", x.over(0, set), OUTSIDE);
            due("over(1, " + set + ")", x.over(1, set), UNKNOWN);
        }
        due("over(-1, 1)", x.over(-1, 1), UNKNOWN);
        due("told(0, 0)", x.told(0, 0), 2);
    }

    private static void on() {
        EndMeters x = start(6, 2);
        x.way(1, 7);
        x.way(1, 8);
        due("fits()", x.fits(), 0);
        due("on(1, true)", x.on(1, true), 1);
        due("on(1, false)", x.on(1, false), 1);
        due("fits()", x.fits(), 1);
        due("on(1, false)", x.on(1, false), 0);
        due("count(2)", x.count(2), 1);
        due("told(1, 1)", x.told(1, 1), 8);
        due("on(1, true)", x.on(1, true), 0);
        due("fits()", x.fits(), 0);
        due("on(2, true)", x.on(2, true), UNKNOWN);
        due("on(-1, false)", x.on(-1, false), UNKNOWN);
        due("on(LOW, false)", x.on(LOW, false), UNKNOWN);
        due("count(2)", x.count(2), 2);
    }

    private static void bad() {
        EndMeters x = start(7, 2);
        x.way(1, 7);
        x.way(2, 8);
        due("bad(1, false)", x.bad(1, false), 0);
        due("bad(1, true)", x.bad(1, true), 0);
        due("told(0, 3)", x.told(0, 3), 0);
        due("told(1, 3)", x.told(1, 3), 1);
        due("sick(0)", x.sick(0), 2);
        due("bad(1, true)", x.bad(1, true), 1);
        due("bad(1, false)", x.bad(1, false), 1);
        due("told(1, 3)", x.told(1, 3), 0);
        due("sick(0)", x.sick(0), 0);
        due("bad(2, true)", x.bad(2, true), UNKNOWN);
        due("bad(-1, true)", x.bad(-1, true), UNKNOWN);
        due("bad(HIGH, true)", x.bad(HIGH, true), UNKNOWN);
    }

    private static void back() {
        EndMeters x = start(8, 2);
        due("back()", x.back(), STATE);
        x.way(1, 7);
        x.way(1, 8);
        x.on(1, false);
        x.bad(1, true);
        due("back()", x.back(), 1);
        due("told(1, 0)", x.told(1, 0), UNKNOWN);
        due("told(0, 1)", x.told(0, 1), 7);
        due("way(1, 9)", x.way(1, 9), 1);
        due("told(1, 2), a new one", x.told(1, 2), 1);
        due("told(1, 3), a new one", x.told(1, 3), 0);
        due("fits()", x.fits(), 0);
        due("back()", x.back(), 1);
        due("fits()", x.fits(), 1);
        due("back()", x.back(), 0);
        due("bound(1, 1, 0)", x.bound(1, 1, 0), ENDLESS);
        due("back()", x.back(), STATE);
        due("count(1)", x.count(1), 0);
        x.offer(1);
        x.way(1, 1);
        x.back();
        due("count(8), OFFERS stay", x.count(8), 1);
    }

    private static void told() {
        EndMeters x = start(9, 5);
        x.way(3, 10);
        x.way(20, 99);
        x.on(0, false);
        x.bad(1, true);
        int[][] all = {{3, 10, 0, 0}, {20, 99, 1, 1}};
        for (int w = 0; w < 2; w++) {
            for (int what = 0; what < 4; what++) {
                due("told(" + w + ", " + what + ")", x.told(w, what), all[w][what]);
            }
        }
        for (int what : new int[] {-1, 4, LOW, HIGH}) {
            due("told(1, " + what + ")", x.told(1, what), OUTSIDE);
            due("told(2, " + what + ")", x.told(2, what), UNKNOWN);
            due("told(-1, " + what + ")", x.told(-1, what), UNKNOWN);
        }
    }

    private static void counts(EndMeters x, int... wants) {
        for (int what = 0; what < wants.length; what++) {
            due("count(" + what + ")", x.count(what), wants[what]);
        }
    }

    private static void count() {
        EndMeters x = start(10, 6);
        counts(x, 6, 0, 0, 0, 0, 0, 0, 1, 0);
        x.way(3, 5);
        x.way(12, 5);
        x.way(15, 10);
        counts(x, 6, 3, 3, 2, 4, 0, 0, 3, 0);
        x.way(5, 10);
        counts(x, 6, 4, 4, 3, 4, 4, 0, 5, 0);
        x.on(1, false);
        counts(x, 6, 4, 3, 3, 4, 4, 0, 5, 0);
        x.way(16, 3);
        x.offer(1);
        x.offer(1);
        counts(x, 6, 5, 4, 4, 5, 5, 1, 6, 2);
        x.sum(4, 4);
        counts(x, 6, 5, 4, 4, 5, 5, 1, 6, 2);
        x.way(16, 3);
        counts(x, 6, 6, 5, 4, 5, STATE, 1, 6, 2);
        for (int what : new int[] {-1, 9, LOW, HIGH}) {
            due("count(" + what + ")", x.count(what), OUTSIDE);
        }
    }

    private static void fits() {
        EndMeters x = start(11, 3);
        due("fits()", x.fits(), 1);
        x.way(7, 4);
        due("fits()", x.fits(), 1);
        x.way(3, 5);
        due("fits(), a DELAY would be below 0", x.fits(), 0);
        x.on(0, false);
        due("fits()", x.fits(), 1);
        x.on(0, true);
        x.sum(0, 5);
        due("fits(), a DELAY of 0", x.fits(), 1);
        x.way(3, 5);
        due("fits(), said twice", x.fits(), 1);
        x.sum(2, 6);
        due("fits(), two that say otherwise", x.fits(), 0);
        x = start(11, 3);
        x.way(3, 1);
        x.way(6, 1);
        x.way(5, 1);
        due("fits(), halves", x.fits(), 1);
        x.sum(0, 3);
        due("fits(), below 0 by a half", x.fits(), 0);
    }

    private static void bound() {
        EndMeters x = start(12, 4);
        x.way(3, 10);
        x.way(6, 7);
        due("bound(1, 0, 0)", x.bound(1, 0, 0), 3);
        due("bound(1, 1, 0)", x.bound(1, 1, 0), 10);
        due("bound(2, 0, 0)", x.bound(2, 0, 0), 0);
        due("bound(2, 1, 0)", x.bound(2, 1, 0), 7);
        due("bound(5, 0, 0)", x.bound(5, 0, 0), 3);
        due("bound(5, 1, 0)", x.bound(5, 1, 0), 17);
        due("bound(5, 1, 1)", x.bound(5, 1, 1), 1);
        due("bound(7, 0, 0)", x.bound(7, 0, 0), 10);
        due("bound(7, 1, 0)", x.bound(7, 1, 0), 17);
        due("bound(15, 0, 0)", x.bound(15, 0, 0), 10);
        due("bound(15, 1, 0)", x.bound(15, 1, 0), ENDLESS);
        due("bound(8, 1, 1)", x.bound(8, 1, 1), ENDLESS);
        due("bound(8, 0, 1)", x.bound(8, 0, 1), 1);
        due("bound(0, 0, 0)", x.bound(0, 0, 0), 0);
        due("bound(0, 1, 0)", x.bound(0, 1, 0), 0);
        due("bound(0, 1, 1)", x.bound(0, 1, 1), 1);
        x.way(5, 4);
        due("bound(1, 0, 0), halves", x.bound(1, 0, 0), 7);
        due("bound(1, 0, 1), halves", x.bound(1, 0, 1), 2);
        due("bound(7, 1, 0)", x.bound(7, 1, 0), 21);
        due("bound(7, 1, 1)", x.bound(7, 1, 1), 2);
        due("bound(3, 1, 1), least terms", x.bound(3, 1, 1), 1);
        wrongBounds(x);
        x.sum(0, 100);
        due("bound(1, 0, 0), no SOLUTION", x.bound(1, 0, 0), STATE);
        due("bound(0, 0, 0), no SOLUTION", x.bound(0, 0, 0), STATE);
        due("bound(8, 1, 0), no SOLUTION", x.bound(8, 1, 0), STATE);
        due("bound(16, 1, 0), no SOLUTION", x.bound(16, 1, 0), OUTSIDE);
    }

    private static void wrongBounds(EndMeters x) {
        for (int set : new int[] {-1, 16, LOW, HIGH}) {
            due("bound(" + set + ", 0, 0)", x.bound(set, 0, 0), OUTSIDE);
        }
        for (int other : new int[] {-1, 2, LOW, HIGH}) {
            due("bound(1, " + other + ", 0)", x.bound(1, other, 0), OUTSIDE);
            due("bound(8, 1, " + other + ")", x.bound(8, 1, other), OUTSIDE);
        }
    }

    private static void shownAll(EndMeters x, int set, int end, int... delays) {
        for (int k = 0; k < delays.length; k++) {
            due("shown(" + set + ", " + end + ", " + k + ", 0)", x.shown(set, end, k, 0), delays[k]);
            due("shown(" + set + ", " + end + ", " + k + ", 1)", x.shown(set, end, k, 1), 1);
        }
    }

    private static void shown() {
        EndMeters x = start(13, 5);
        x.way(15, 9);
        shownAll(x, 0, 0, 0, 0, 0, 9, 0);
        shownAll(x, 0, 1, 0, 0, 0, 9, 0);
        shownAll(x, 3, 1, 0, 9, 0, 0, 0);
        shownAll(x, 8, 0, 0, 0, 9, 0, 0);
        shownAll(x, 12, 0, 0, 9, 0, 0, 0);
        shownAll(x, 15, 1, 0, 0, 0, 9, 0);
        shownAll(x, 16, 0, 0, 0, 0, 9, 0);
        x.way(3, 4);
        shownAll(x, 1, 1, 4, 0, 0, 5, 0);
        shownAll(x, 10, 0, 4, 0, 5, 0, 0);
        due("shown(16, 1, 0, 0)", x.shown(16, 1, 0, 0), ENDLESS);
        due("shown(17, 1, 4, 1)", x.shown(17, 1, 4, 1), ENDLESS);
        due("shown(1, 0, 5, 0)", x.shown(1, 0, 5, 0), UNKNOWN);
        due("shown(-1, 7, -1, 9)", x.shown(-1, 7, -1, 9), UNKNOWN);
        due("shown(32, 0, 0, 0)", x.shown(32, 0, 0, 0), OUTSIDE);
        due("shown(-1, 0, 0, 0)", x.shown(-1, 0, 0, 0), OUTSIDE);
        due("shown(1, 2, 0, 0)", x.shown(1, 2, 0, 0), OUTSIDE);
        due("shown(1, -1, 0, 0)", x.shown(1, -1, 0, 0), OUTSIDE);
        due("shown(16, 1, 0, 2)", x.shown(16, 1, 0, 2), OUTSIDE);
        due("shown(1, 0, 0, -1)", x.shown(1, 0, 0, -1), OUTSIDE);
        x.sum(0, 3);
        due("shown(16, 1, 0, 0), no SOLUTION", x.shown(16, 1, 0, 0), STATE);
        due("shown(1, 2, 0, 0), no SOLUTION", x.shown(1, 2, 0, 0), OUTSIDE);
        due("shown(1, 0, 5, 0), no SOLUTION", x.shown(1, 0, 5, 0), UNKNOWN);
        x = start(13, 3);
        x.way(3, 2);
        x.way(6, 2);
        x.way(5, 1);
        int[] halves = {1, 3, 1};
        for (int k = 0; k < 3; k++) {
            due("shown(7, 0, " + k + ", 0)", x.shown(7, 0, k, 0), halves[k]);
            due("shown(7, 0, " + k + ", 1)", x.shown(7, 0, k, 1), 2);
        }
    }

    private static void settled() {
        EndMeters x = start(14, 3);
        due("settled(0), not SEEN", x.settled(0), 0);
        x.way(3, 0);
        due("settled(0), by a SUM of 0", x.settled(0), 1);
        due("settled(1), by a SUM of 0", x.settled(1), 1);
        due("settled(2), not SEEN", x.settled(2), 0);
        x.sum(0, 1);
        due("settled(0)", x.settled(0), 0);
        x.way(7, 1);
        due("settled(2)", x.settled(2), 1);
        due("settled(1)", x.settled(1), 0);
        due("settled(3)", x.settled(3), UNKNOWN);
        due("settled(-1)", x.settled(-1), UNKNOWN);
        x.sum(1, 0);
        due("settled(0), no SOLUTION", x.settled(0), STATE);
        due("settled(3), no SOLUTION", x.settled(3), UNKNOWN);
    }

    private static void known() {
        EndMeters x = start(15, 4);
        due("known(0)", x.known(0), 0);
        x.way(3, 0);
        due("known(0), SETTLED only", x.known(0), 0);
        x.way(6, 9);
        x.way(5, 1);
        for (int k = 0; k < 4; k++) {
            due("known(" + k + "), no SOLUTION", x.known(k), k < 3 ? 1 : 0);
        }
        x.on(2, false);
        due("known(0)", x.known(0), 0);
        x.way(7, 9);
        due("known(0)", x.known(0), 1);
        due("known(1)", x.known(1), 1);
        due("known(2)", x.known(2), 1);
        due("known(4)", x.known(4), UNKNOWN);
        due("known(-1)", x.known(-1), UNKNOWN);
        due("known(HIGH)", x.known(HIGH), UNKNOWN);
    }

    private static void group() {
        EndMeters x = start(16, 6);
        due("group(5)", x.group(5), 63);
        x.way(15, 1);
        due("group(0)", x.group(0), 15);
        due("group(5)", x.group(5), 48);
        x.way(51, 1);
        due("group(1)", x.group(1), 3);
        due("group(2)", x.group(2), 12);
        due("group(4)", x.group(4), 48);
        x.on(0, false);
        due("group(1)", x.group(1), 51);
        due("group(2)", x.group(2), 12);
        due("group(6)", x.group(6), UNKNOWN);
        due("group(-1)", x.group(-1), UNKNOWN);
    }

    private static void lyingAll(EndMeters x, int... sets) {
        due("lying(NONE)", x.lying(NONE), sets.length);
        for (int i = 0; i < sets.length; i++) {
            due("lying(" + i + ")", x.lying(i), sets[i]);
        }
        for (int i : new int[] {-2, sets.length, LOW, HIGH}) {
            due("lying(" + i + ")", x.lying(i), OUTSIDE);
        }
    }

    private static void lying() {
        EndMeters x = start(17, 3);
        lyingAll(x, 0);
        x.way(1, 5);
        x.way(1, 6);
        x.way(2, 1);
        lyingAll(x, 1, 2);
        x.way(1, 5);
        lyingAll(x, 2);
        x.way(3, 7);
        lyingAll(x, 6, 9, 18);
        x.on(4, false);
        lyingAll(x, 2);
        x.on(1, false);
        lyingAll(x, 0);
        x = start(17, 1);
        for (int w = 0; w < 10; w++) {
            x.way(1, w / 2);
        }
        lyingAll(x, 1023 - 768, 1023 - 192, 1023 - 48, 1023 - 12, 1023 - 3);
        x = start(17, 2);
        x.way(3, 4);
        x.way(1, 5);
        lyingAll(x, 1, 2);
        x.back();
        lyingAll(x, 0);
        x.way(1, 4);
        lyingAll(x, 0);
        x.over(1, 2);
        x.way(1, 1);
        lyingAll(x, 1, 2, 4);
    }

    private static void offer() {
        EndMeters x = start(18, 3);
        for (int set : new int[] {0, -1, 8, LOW, HIGH}) {
            due("offer(" + set + ")", x.offer(set), OUTSIDE);
        }
        for (int i = 0; i < 10; i++) {
            due("offer(7)", x.offer(7), i);
        }
        due("count(8)", x.count(8), 10);
        due("offer(7), the eleventh", x.offer(7), FULL);
        due("offer(8), the eleventh", x.offer(8), OUTSIDE);
        due("count(8)", x.count(8), 10);
        due("count(1), no WAY by it", x.count(1), 0);
        due("count(4), no LINE SEEN by it", x.count(4), 0);
        due("known(0)", x.known(0), 0);
    }

    private static void offered() {
        EndMeters x = start(19, 3);
        x.offer(7);
        x.offer(2);
        due("advice(1)", x.advice(1), NONE);
        due("offered(0, 3)", x.offered(0, 3), 7);
        due("advice(1)", x.advice(1), 3);
        due("offered(0, 1)", x.offered(0, 1), 3);
        due("advice(1)", x.advice(1), 1);
        for (int set : new int[] {0, 8, -1, LOW, HIGH}) {
            due("offered(0, " + set + ")", x.offered(0, set), OUTSIDE);
            due("offered(2, " + set + ")", x.offered(2, set), UNKNOWN);
            due("offered(-1, " + set + ")", x.offered(-1, set), UNKNOWN);
        }
        due("offered(0, 4)", x.offered(0, 4), 1);
        due("count(8)", x.count(8), 2);
    }

    private static void advice() {
        EndMeters x = start(20, 4);
        due("advice(0), no OFFERS", x.advice(0), 0);
        due("advice(1), no OFFERS", x.advice(1), NONE);
        x.way(1, 5);
        due("advice(1), KNOWN", x.advice(1), 0);
        x.way(7, 5);
        x.offer(2);
        x.offer(3);
        x.offer(5);
        x.offer(12);
        x.offer(8);
        x.offer(4);
        due("advice(2)", x.advice(2), 1);
        due("advice(4)", x.advice(4), 1);
        due("advice(6)", x.advice(6), 1);
        due("advice(8)", x.advice(8), 16);
        due("advice(15)", x.advice(15), 9);
        x.on(1, false);
        due("advice(6)", x.advice(6), 5);
        due("advice(14)", x.advice(14), 13);
        x.on(0, false);
        due("advice(1)", x.advice(1), 3);
        due("advice(5)", x.advice(5), 36);
        due("advice(15)", x.advice(15), 15);
        x.way(15, 0);
        x.sum(2, 0);
        due("advice(1)", x.advice(1), 3);
        for (int set : new int[] {-1, 16, LOW, HIGH}) {
            due("advice(" + set + ")", x.advice(set), OUTSIDE);
        }
        x = start(20, 10);
        for (int i = 0; i < 10; i++) {
            x.offer(1 << 9 - i);
        }
        due("advice(1023)", x.advice(1023), 1023);
        due("advice(1)", x.advice(1), 512);
        x.way(1, 1);
        x.way(1, 2);
        due("advice(1023), no SOLUTION", x.advice(1023), 511);
    }

    private static void sickAll(EndMeters x, int... sets) {
        due("sick(NONE)", x.sick(NONE), sets.length);
        for (int i = 0; i < sets.length; i++) {
            due("sick(" + i + ")", x.sick(i), sets[i]);
        }
        for (int i : new int[] {-2, sets.length, LOW, HIGH}) {
            due("sick(" + i + ")", x.sick(i), OUTSIDE);
        }
    }

    private static void sick() {
        EndMeters x = start(21, 5);
        sickAll(x, 0);
        x.way(7, 1);
        sickAll(x, 0);
        x.bad(0, true);
        sickAll(x, 1, 2, 4);
        x.way(2, 1);
        sickAll(x, 1, 4);
        x.way(24, 1);
        x.bad(2, true);
        sickAll(x, 9, 12, 17, 20);
        x.way(12, 1);
        x.bad(3, true);
        sickAll(x, 9, 12, 20);
        x.on(2, false);
        sickAll(x, 4);
        x.on(1, false);
        x.over(1, 5);
        sickAll(x, 4);
        x.on(1, true);
        sickAll(x, 10);
        x.over(1, 7);
        sickAll(x);
        x.on(0, false);
        sickAll(x, 8);
        x = start(21, 10);
        for (int w = 0; w < 10; w++) {
            x.way(1 << w, 1);
            x.bad(w, true);
        }
        sickAll(x, 1023);
    }

    private static void pair() {
        EndMeters x = start(22, 1);
        long[][] shares = {{4, 5}, {5, 8}, {1, 2}};
        for (int part = 0; part < 3; part++) {
            for (int what = 0; what < 2; what++) {
                due("pair(1000, 500, 400, 250, ..)", x.pair(1000, 500, 400, 250, part, what), shares[part][what]);
            }
        }
        due("pair, greatest", x.pair(1000000, 1000000, 1000000, 1000000, 0, 0), 1);
        due("pair, greatest", x.pair(1000000, 1000000, 1000000, 1000000, 0, 1), 1);
        due("pair, above 1", x.pair(1000000, 999999, 999983, 1, 0, 0), 999982000017L);
        due("pair, above 1", x.pair(1000000, 999999, 999983, 1, 0, 1), 1000000);
        due("pair, lower number", x.pair(1000000, 999999, 999999, 999997, 0, 1), 999997000000L);
        due("pair, least", x.pair(1, 1, 1, 1, 2, 0), 1);
        due("pair(10, 5, 4, 0, ..)", x.pair(10, 5, 4, 0, 0, 0), STATE);
        due("pair(0, 0, 0, 0, ..)", x.pair(0, 0, 0, 0, 2, 1), STATE);
        due("pair, both 0, no such part", x.pair(10, 5, 4, 0, 3, 0), OUTSIDE);
        due("pair, both 0, no such what", x.pair(10, 5, 4, 0, 0, 2), OUTSIDE);
        int[][] outside = {
            {1000001, 5, 4, 3, 0, 0}, {10, 11, 4, 3, 0, 0}, {10, 5, 11, 3, 0, 0}, {10, 5, 4, 5, 0, 0}, {10, 4, 5, 5, 0, 0},
            {10, 5, 4, -1, 0, 0}, {10, -1, 4, -1, 0, 0}, {10, 5, -1, -1, 0, 0}, {-1, -1, -1, -1, 0, 0}, {10, 5, 4, 3, -1, 0},
            {10, 5, 4, 3, 3, 0}, {10, 5, 4, 3, 0, -1}, {10, 5, 4, 3, 0, 2}, {HIGH, HIGH, HIGH, HIGH, 0, 0},
            {LOW, LOW, LOW, LOW, 0, 0}, {5, -1, 4, 0, 0, 0}, {5, 4, -1, 0, 0, 0}, {-1, 0, 0, 0, 0, 0}};
        for (int[] p : outside) {
            due("pair" + java.util.Arrays.toString(p), x.pair(p[0], p[1], p[2], p[3], p[4], p[5]), OUTSIDE);
        }
    }
}
