import java.util.Arrays;
import java.util.TreeSet;

/**
 * One EndMeters under test. Calls go by name, so that a test can be a table of them; an answer that is
 * not the one due is told with the document's sentence that asks for it and with all calls before it.
 * The numbers are the document's own, not the class's, so that a wrong constant is seen.
 */
final class Probe {
    static final int NONE = -1, UNKNOWN = -101, OUTSIDE = -102, STATE = -103, FULL = -104, ENDLESS = -105;
    static final int LOW = Integer.MIN_VALUE, HIGH = Integer.MAX_VALUE;
    /** "An object is used for at most 512 calls": no test may ask for more. */
    static final int MOST_CALLS = 512;

    private static final int MOST_REPORTS = 40;
    private static String sentence = "";
    private static int sentences = 0;
    private static int checks = 0;
    private static int wrong = 0;

    private final EndMeters meters = new EndMeters();
    private final StringBuilder story = new StringBuilder();
    private int calls = 0;

    /** From now on the answers are held against these words of the document. */
    static void sentence(String words) {
        sentence = words;
        sentences++;
    }

    static void must(boolean holds, String what) {
        checks++;
        if (!holds) {
            wrong++;
            if (wrong <= MOST_REPORTS) {
                System.out.println("\"" + sentence + "\": " + what);
            }
        }
    }

    static void finish() {
        System.out.println(sentences + " sentences, " + checks + " checks, " + wrong + " not as due");
        if (wrong != 0) {
            System.exit(1);
        }
    }

    /**
     * Numbers out of least .. most: the next ones at both ends, the least and the greatest int, and
     * those that a shift, a byte, a short or a lost sign would turn into good ones.
     */
    static int[] beyond(int least, int most) {
        TreeSet<Integer> found = new TreeSet<>(Arrays.asList(least - 1, most + 1, LOW, HIGH, -least, -most, ~least, ~most));
        for (int step : new int[] {16, 32, 64, 256, 65536, 1 << 24, 1 << 30, LOW}) {
            found.addAll(Arrays.asList(least + step, least - step, most + step, most - step));
        }
        found.removeIf(number -> number >= least && number <= most);
        return found.stream().mapToInt(Integer::intValue).toArray();
    }

    /** The greatest SET of n LINES. */
    static int all(int n) {
        return (1 << n) - 1;
    }

    int calls() {
        return calls;
    }

    String story() {
        return story.toString();
    }

    long call(String name, int... a) {
        calls++;
        story.append(name).append(Arrays.toString(a)).append(' ');
        if (calls > MOST_CALLS) {
            must(false, "the test itself uses an object for too many calls: " + name);
        }
        return switch (name) {
            case "lines" -> meters.lines(a[0]);
            case "way" -> meters.way(a[0], a[1]);
            case "sum" -> meters.sum(a[0], a[1]);
            case "over" -> meters.over(a[0], a[1]);
            case "on" -> meters.on(a[0], a[1] == 1);
            case "bad" -> meters.bad(a[0], a[1] == 1);
            case "back" -> meters.back();
            case "told" -> meters.told(a[0], a[1]);
            case "count" -> meters.count(a[0]);
            case "fits" -> meters.fits();
            case "bound" -> meters.bound(a[0], a[1], a[2]);
            case "shown" -> meters.shown(a[0], a[1], a[2], a[3]);
            case "settled" -> meters.settled(a[0]);
            case "known" -> meters.known(a[0]);
            case "group" -> meters.group(a[0]);
            case "lying" -> meters.lying(a[0]);
            case "offer" -> meters.offer(a[0]);
            case "offered" -> meters.offered(a[0], a[1]);
            case "advice" -> meters.advice(a[0]);
            case "sick" -> meters.sick(a[0]);
            case "pair" -> meters.pair(a[0], a[1], a[2], a[3], a[4], a[5]);
            default -> throw new IllegalArgumentException(name);
        };
    }

    /** A call whose answer is not what the test is about. */
    Probe does(String name, int... a) {
        call(name, a);
        return this;
    }

    Probe due(long want, String name, int... a) {
        long got = call(name, a);
        must(got == want, story + "answered " + got + ", due is " + want);
        return this;
    }

    /** The answers to name(0), name(1) and so on. */
    Probe dueInTurn(String name, long... wants) {
        for (int number = 0; number < wants.length; number++) {
            due(wants[number], name, number);
        }
        return this;
    }

    /** All of a list that is asked by lying or sick: how many, each one, and that there is no other. */
    Probe dueList(String name, long... wants) {
        due(wants.length, name, NONE);
        dueInTurn(name, wants);
        return due(OUTSIDE, name, wants.length).due(OUTSIDE, name, -2);
    }

    /** SET, SUM, ON and BAD of a WAY. */
    Probe dueWay(int w, int set, int sum, int on, int bad) {
        return due(set, "told", w, 0).due(sum, "told", w, 1).due(on, "told", w, 2).due(bad, "told", w, 3);
    }

    /** LEAST or GREATEST of a SET as a fraction. */
    Probe dueBound(int set, int end, long upper, long lower) {
        return due(upper, "bound", set, end, 0).due(lower, "bound", set, end, 1);
    }

    /** DELAY of a LINE in THE SHOWN SOLUTION as a fraction. */
    Probe dueShown(int set, int end, int k, long upper, long lower) {
        return due(upper, "shown", set, end, k, 0).due(lower, "shown", set, end, k, 1);
    }

    /** THE SHOWN SOLUTION, if all of its DELAYS are whole. */
    Probe dueShownWhole(int set, int end, int... delays) {
        for (int k = 0; k < delays.length; k++) {
            dueShown(set, end, k, delays[k], 1);
        }
        return this;
    }
}
