import java.util.ArrayList;
import java.util.List;

/**
 * Refused calls, from several states: each answers the first of UNKNOWN, OUTSIDE, STATE, FULL (and ENDLESS
 * behind these) that fits, where one, two or more of them do; and nothing changes by it, neither in an object
 * that has not been asked anything yet nor in one that has answered all there is to ask.
 */
public final class EndMetersRefusals {
    private static final int NONE = Probe.NONE, UNKNOWN = Probe.UNKNOWN, OUTSIDE = Probe.OUTSIDE,
            STATE = Probe.STATE, FULL = Probe.FULL, ENDLESS = Probe.ENDLESS;
    private static final int LOW = Probe.LOW, HIGH = Probe.HIGH;
    private static final int MOST = 10;
    private static final int MOST_SUM = 100000;
    private static final int[] ZERO_AND_ONE = {0, 1};

    /** A call by name; a refused one with the answer that is due. */
    private record Call(long want, String name, int... a) {
    }

    /** How a state is made, and what the document says of it. */
    private record Start(int lines, int ways, int offers, boolean fits, int unseen, List<Call> calls) {
        int all() {
            return Probe.all(lines);
        }
    }

    private final Start start;
    private final List<Call> refused = new ArrayList<>();

    private EndMetersRefusals(Start start) {
        this.start = start;
    }

    public static void main(String[] args) {
        for (Start start : starts()) {
            EndMetersRefusals test = new EndMetersRefusals(start);
            Probe.sentence("Calls answer, the first of these that fits: UNKNOWN, OUTSIDE, STATE, FULL");
            test.gather();
            test.answersAreDue();
            Probe.sentence("then nothing changes");
            test.nothingChanges();
        }
        Probe.finish();
    }

    // ---- the states

    private static List<Start> starts() {
        return List.of(
            new Start(4, 0, 0, true, 15, List.of()),
            new Start(1, 1, 1, true, 0, List.of(does("lines", 1), does("way", 1, 0), does("offer", 1))),
            fitting(), clashing(), allOff(), fullAndFitting(), fullAndClashing());
    }

    private static Call does(String name, int... a) {
        return new Call(0, name, a);
    }

    private static Start fitting() {
        return new Start(4, 3, 2, true, 8, List.of(does("lines", 4), does("way", 3, 10), does("way", 6, 7), does("way", 1, 99),
            does("on", 2, 0), does("bad", 1, 1), does("offer", 5), does("offer", 1)));
    }

    private static Start clashing() {
        return new Start(5, 3, 3, false, 24, List.of(does("lines", 5), does("way", 3, 5), does("way", 1, 6), does("way", 4, 2),
            does("bad", 2, 1), does("offer", 31), does("offer", 3), does("offer", 8)));
    }

    private static Start allOff() {
        return new Start(2, 2, 0, true, 3, List.of(does("lines", 2), does("way", 1, 5), does("way", 1, 6), does("on", 0, 0),
            does("on", 1, 0), does("bad", 0, 1)));
    }

    private static Start fullAndFitting() {
        List<Call> calls = new ArrayList<>(List.of(does("lines", MOST)));
        for (int k = 0; k < MOST; k++) {
            calls.add(does("way", 1 << k, k * 1000));
            calls.add(does("offer", 1023 - k));
        }
        return new Start(MOST, MOST, MOST, true, 0, calls);
    }

    private static Start fullAndClashing() {
        List<Call> calls = new ArrayList<>(List.of(does("lines", MOST)));
        for (int w = 0; w < MOST; w++) {
            calls.add(does("way", 3 << w / 2, w * 10));
            calls.add(does("bad", w, w % 3 == 1 ? 1 : 0));
            calls.add(does("offer", 1 << w));
        }
        calls.add(does("on", 4, 0));
        return new Start(MOST, MOST, MOST, false, 1023 - 63, calls);
    }

    private Probe made() {
        Probe x = new Probe();
        for (Call call : start.calls) {
            x.does(call.name, call.a);
        }
        return x;
    }

    // ---- the refused calls

    private void refuse(long want, String name, int... a) {
        refused.add(new Call(want, name, a));
    }

    private void gather() {
        int[] noWay = Probe.beyond(0, start.ways - 1);
        int[] noLine = Probe.beyond(0, start.lines - 1);
        int[] noOffer = Probe.beyond(0, start.offers - 1);
        gatherNet(noWay);
        gatherOnAndBad(noWay);
        gatherTold(noWay);
        gatherCounts();
        gatherBounds();
        gatherShown(noLine);
        gatherOfLines(noLine);
        gatherLists();
        gatherOffers(noOffer);
        gatherPairs();
    }

    /** The numbers out of least .. most that matter most where two wrong numbers meet. */
    private static int[] few(int least, int most) {
        return new int[] {least - 1, most + 1, LOW, HIGH};
    }

    /** The first and the last number of so many. */
    private static int[] ends(int count) {
        return count == 0 ? new int[] {} : count == 1 ? new int[] {0} : new int[] {0, count - 1};
    }

    private void gatherNet(int[] noWay) {
        for (int n : Probe.beyond(1, MOST)) {
            refuse(OUTSIDE, "lines", n);
        }
        for (int set : Probe.beyond(1, start.all())) {
            refuse(OUTSIDE, "way", set, 5);
            refuse(OUTSIDE, "way", set, -1);
        }
        for (int sum : Probe.beyond(0, MOST_SUM)) {
            refuse(OUTSIDE, "way", 1, sum);
            refuse(OUTSIDE, "way", start.all(), sum);
        }
        if (start.ways == MOST) {
            refuse(FULL, "way", 1, 0);
            refuse(FULL, "way", start.all(), MOST_SUM);
        }
        if (start.ways == 0) {
            refuse(STATE, "back");
        }
        gatherChanges(noWay, "sum", 0, MOST_SUM);
        gatherChanges(noWay, "over", 1, start.all());
    }

    /** Of sum and over: no such WAY, a number out of least .. most, or both. */
    private void gatherChanges(int[] noWay, String name, int least, int most) {
        for (int w : noWay) {
            refuse(UNKNOWN, name, w, least);
            refuse(UNKNOWN, name, w, most);
        }
        for (int w : few(0, start.ways - 1)) {
            for (int number : few(least, most)) {
                refuse(UNKNOWN, name, w, number);
            }
        }
        for (int w : ends(start.ways)) {
            for (int number : Probe.beyond(least, most)) {
                refuse(OUTSIDE, name, w, number);
            }
        }
    }

    private void gatherOnAndBad(int[] noWay) {
        for (int w : noWay) {
            for (int is : ZERO_AND_ONE) {
                refuse(UNKNOWN, "on", w, is);
                refuse(UNKNOWN, "bad", w, is);
            }
        }
    }

    private void gatherTold(int[] noWay) {
        for (int w : noWay) {
            for (int what = -1; what <= 4; what++) {
                refuse(UNKNOWN, "told", w, what);
            }
        }
        for (int w : ends(start.ways)) {
            for (int what : Probe.beyond(0, 3)) {
                refuse(OUTSIDE, "told", w, what);
            }
        }
        refuse(UNKNOWN, "told", LOW, HIGH);
        refuse(UNKNOWN, "told", HIGH, LOW);
    }

    private void gatherCounts() {
        for (int what : Probe.beyond(0, 8)) {
            refuse(OUTSIDE, "count", what);
        }
        if (!start.fits) {
            refuse(STATE, "count", 5);
        }
    }

    /** What bound answers for these numbers, if it answers no fraction; else 0. */
    private long boundRefusal(int set, int end, int what) {
        boolean inBounds = set >= 0 && set <= start.all() && (end == 0 || end == 1) && (what == 0 || what == 1);
        if (!inBounds) {
            return OUTSIDE;
        }
        if (!start.fits) {
            return STATE;
        }
        return end == 1 && (set & start.unseen) != 0 ? ENDLESS : 0;
    }

    private void gatherBounds() {
        for (int set : Probe.beyond(0, start.all())) {
            refuse(OUTSIDE, "bound", set, 0, 0);
            refuse(OUTSIDE, "bound", set, 1, 1);
        }
        for (int other : Probe.beyond(0, 1)) {
            refuse(OUTSIDE, "bound", 1, other, 0);
            refuse(OUTSIDE, "bound", 1, 0, other);
        }
        for (int set : someSets()) {
            for (int end = -1; end <= 2; end++) {
                for (int what = -1; what <= 2; what++) {
                    long want = boundRefusal(set, end, what);
                    if (want != 0) {
                        refuse(want, "bound", set, end, what);
                    }
                }
            }
        }
    }

    private int[] someSets() {
        return new int[] {-1, 0, 1, start.all() >> 1, start.all(), start.all() + 1, start.unseen, LOW, HIGH};
    }

    private void gatherShown(int[] noLine) {
        for (int k : noLine) {
            refuse(UNKNOWN, "shown", 1, 0, k, 0);
            refuse(UNKNOWN, "shown", start.all(), 1, k, 1);
        }
        for (int k : few(0, start.lines - 1)) {
            for (int set : someSets()) {
                refuse(UNKNOWN, "shown", set, 0, k, 0);
                refuse(UNKNOWN, "shown", set, 2, k, -1);
            }
        }
        for (int k : ends(start.lines)) {
            for (Call bound : List.copyOf(refused)) {
                if (bound.name.equals("bound")) {
                    refuse(bound.want, "shown", bound.a[0], bound.a[1], k, bound.a[2]);
                }
            }
        }
    }

    private void gatherOfLines(int[] noLine) {
        for (int k : noLine) {
            refuse(UNKNOWN, "settled", k);
            refuse(UNKNOWN, "known", k);
            refuse(UNKNOWN, "group", k);
        }
        for (int k = 0; k < start.lines && !start.fits; k++) {
            refuse(STATE, "settled", k);
        }
    }

    private void gatherLists() {
        for (int i : Probe.beyond(-1, 1023)) {
            refuse(OUTSIDE, "lying", i);
            refuse(OUTSIDE, "sick", i);
        }
    }

    private void gatherOffers(int[] noOffer) {
        for (int set : Probe.beyond(1, start.all())) {
            refuse(OUTSIDE, "offer", set);
            for (int i : ends(start.offers)) {
                refuse(OUTSIDE, "offered", i, set);
            }
        }
        if (start.offers == MOST) {
            refuse(FULL, "offer", 1);
            refuse(FULL, "offer", start.all());
        }
        for (int i : noOffer) {
            refuse(UNKNOWN, "offered", i, 1);
            for (int set : few(1, start.all())) {
                refuse(UNKNOWN, "offered", i, set);
            }
        }
        for (int set : Probe.beyond(0, start.all())) {
            refuse(OUTSIDE, "advice", set);
        }
    }

    private void gatherPairs() {
        refuse(STATE, "pair", 10, 5, 4, 0, 0, 0);
        refuse(STATE, "pair", 0, 0, 0, 0, 2, 1);
        refuse(OUTSIDE, "pair", 10, 5, 4, 0, 3, 0);
        refuse(OUTSIDE, "pair", 10, 5, 4, 0, -1, 0);
        refuse(OUTSIDE, "pair", 10, 5, 4, 0, 0, 2);
        refuse(OUTSIDE, "pair", 10, 5, 4, 0, 0, -1);
        refuse(OUTSIDE, "pair", 10, 11, 4, 0, 0, 0);
        refuse(OUTSIDE, "pair", 10, 5, 11, 0, 0, 0);
        refuse(OUTSIDE, "pair", 1000001, 5, 4, 0, 0, 0);
        refuse(OUTSIDE, "pair", 10, -1, 4, 0, 0, 0);
        refuse(OUTSIDE, "pair", 10, 5, 4, 5, 0, 0);
        refuse(OUTSIDE, "pair", HIGH, HIGH, HIGH, HIGH, HIGH, HIGH);
        refuse(OUTSIDE, "pair", LOW, LOW, LOW, LOW, LOW, LOW);
    }

    // ---- what is due

    private void answersAreDue() {
        for (Call call : refused) {
            made().due(call.want, call.name, call.a);
        }
    }

    private void nothingChanges() {
        List<Long> due = allAnswers(made());
        for (Call call : refused) {
            Probe unasked = made().does(call.name, call.a);
            Probe.must(allAnswers(unasked).equals(due), "changed by " + unasked.story());
            nextOnesAreNew(unasked);
            Probe asked = made();
            allAnswers(asked);
            asked.does(call.name, call.a);
            Probe.must(allAnswers(asked).equals(due), "changed, once asked, by " + asked.story());
            nextOnesAreNew(asked);
        }
    }

    /** All that there is to ask, or enough of it to tell any two states apart. */
    private static List<Long> allAnswers(Probe x) {
        List<Long> answers = new ArrayList<>();
        for (int what = 0; what <= 8; what++) {
            answers.add(x.call("count", what));
        }
        int lines = answers.get(0).intValue();
        addAll(answers, x, "told", answers.get(1).intValue(), 4);
        for (int k = 0; k < lines; k++) {
            for (String name : new String[] {"settled", "known", "group"}) {
                answers.add(x.call(name, k));
            }
            answers.add(x.call("bound", 1 << k, 0, 0));
            answers.add(x.call("bound", 1 << k, 1, 0));
            answers.add(x.call("shown", Probe.all(lines), 0, k, 0));
            answers.add(x.call("advice", 1 << k));
        }
        answers.add(x.call("fits"));
        answers.add(x.call("advice", Probe.all(lines)));
        for (int i = NONE; i < 4; i++) {
            answers.add(x.call("lying", i));
            answers.add(x.call("sick", i));
        }
        addOffers(answers, x);
        return answers;
    }

    private static void addAll(List<Long> answers, Probe x, String name, int count, int kinds) {
        for (int number = 0; number < count; number++) {
            for (int kind = 0; kind < kinds; kind++) {
                answers.add(x.call(name, number, kind));
            }
        }
    }

    /** An OFFER's SET is told only when it changes, so it changes there and back. */
    private static void addOffers(List<Long> answers, Probe x) {
        for (int i = 0; i < answers.get(8); i++) {
            long set = x.call("offered", i, 1);
            answers.add(set);
            answers.add(x.call("offered", i, (int) set));
        }
    }

    /** What was refused must not wait for the number that comes next. */
    private void nextOnesAreNew(Probe x) {
        if (start.ways < MOST) {
            x.due(start.ways, "way", 1, 0).dueWay(start.ways, 1, 0, 1, 0);
        } else {
            x.due(FULL, "way", 1, 0).due(MOST - 1, "back").due(MOST - 1, "way", 1, 0).dueWay(MOST - 1, 1, 0, 1, 0);
        }
        x.due(start.offers < MOST ? start.offers : FULL, "offer", 1);
    }
}
