import java.util.ArrayList;
import java.util.List;

/**
 * Long runs of chosen-by-number calls, each answer held against a slow model that follows the
 * document word by word: it looks at every corner of the SOLUTIONS, every SET of WAYS, of OFFERS
 * and of LINES. The numbers come from a fixed seed, so every run is the same.
 */
public final class EndMetersOracle {
    /** "An object is used for at most 512 calls": the longest step asks for all of 252 SETS, and three times more. */
    private static final int MOST_CALLS = 512, MOST_CALLS_OF_A_STEP = 255;
    private static int wrong = 0;
    private static long calls = 0;
    private static long seed = 20261116L;

    public static void main(String[] args) {
        for (int run = 0; run < 700; run++) {
            oneRun(run, 1 + next(4), 5, 5, 120);
        }
        for (int run = 700; run < 900; run++) {
            oneRun(run, 3 + next(4), 7, 6, 120);
        }
        for (int run = 900; run < 960; run++) {
            oneRun(run, 6 + next(5), 10, 10, 60);
        }
        for (int run = 960; run < 1000; run++) {
            oneRun(run, 1 + next(5), 10, 6, MOST_CALLS);
        }
        System.out.println(calls + " calls held against the model, " + wrong + " not as due");
        if (wrong != 0) {
            System.exit(1);
        }
    }

    private static int next(int bound) {
        seed = seed * 6364136223846793005L + 1442695040888963407L;
        return (int) ((seed >>> 33) % bound);
    }

    private static void oneRun(int run, int lines, int mostWays, int mostOffers, int length) {
        EndMeters meters = new EndMeters();
        Model model = new Model();
        StringBuilder story = new StringBuilder();
        long before = calls;
        due(run, story, "lines(" + lines + ")", meters.lines(lines), model.lines(lines));
        int[] hidden = hiddenDelays(lines);
        for (int i = 0; i < length && calls - before <= MOST_CALLS - MOST_CALLS_OF_A_STEP; i++) {
            if (next(3) > 0) {
                change(run, story, meters, model, hidden, mostWays, mostOffers);
            } else {
                ask(run, story, meters, model);
            }
        }
    }

    private static int[] hiddenDelays(int lines) {
        int[] delays = new int[lines];
        int range = new int[] {2, 5, 40, 10000}[next(4)];
        for (int line = 0; line < lines; line++) {
            delays[line] = next(3) == 0 ? 0 : next(range);
        }
        return delays;
    }

    private static int someSet(Model model) {
        if (next(40) == 0) {
            return new int[] {-1, 0, 1 << model.lines, Integer.MIN_VALUE, Integer.MAX_VALUE}[next(5)];
        }
        int set = next(1 << model.lines);
        return next(2) == 0 ? set & next(1 << model.lines) : set;
    }

    private static int someSum(int set, int[] hidden) {
        int kind = next(60);
        if (kind == 0) {
            return new int[] {-1, 100001, Integer.MIN_VALUE, Integer.MAX_VALUE}[next(4)];
        }
        if (kind < 8) {
            return new int[] {0, 1, 2, 3, next(20), next(100001), 100000, 99999}[kind];
        }
        int sum = 0;
        for (int line = 0; line < hidden.length; line++) {
            sum += (set >> line & 1) * hidden[line];
        }
        return sum;
    }

    private static int someOf(int count) {
        return next(25) == 0 ? new int[] {-1, count, Integer.MIN_VALUE, Integer.MAX_VALUE}[next(4)]
                : next(Math.max(1, count));
    }

    private static void change(int run, StringBuilder story, EndMeters x, Model m, int[] hidden, int mostWays, int mostOffers) {
        int w = someOf(m.ways.size());
        int set = someSet(m);
        int sum = someSum(set, hidden);
        boolean is;
        switch (next(12)) {
            case 0, 1, 2, 3:
                if (m.ways.size() < mostWays || mostWays == 10) {
                    due(run, story, "way(" + set + ", " + sum + ")", x.way(set, sum), m.way(set, sum));
                }
                break;
            case 4:
                int v = w >= 0 && w < m.ways.size() ? someSum(m.ways.get(w)[0], hidden) : sum;
                due(run, story, "sum(" + w + ", " + v + ")", x.sum(w, v), m.sum(w, v));
                break;
            case 5:
                due(run, story, "over(" + w + ", " + set + ")", x.over(w, set), m.over(w, set));
                break;
            case 6:
                is = next(3) > 0;
                due(run, story, "on(" + w + ", " + is + ")", x.on(w, is), m.on(w, is));
                break;
            case 7, 8:
                // Among many GOOD WAYS no SICK SET would be left to tell apart.
                is = next(6) > 0;
                due(run, story, "bad(" + w + ", " + is + ")", x.bad(w, is), m.bad(w, is));
                break;
            case 9:
                if (next(3) == 0) {
                    due(run, story, "back()", x.back(), m.back());
                }
                break;
            case 10:
                if (m.offers.size() < mostOffers || mostOffers == 10) {
                    due(run, story, "offer(" + set + ")", x.offer(set), m.offer(set));
                }
                break;
            default:
                int o = someOf(m.offers.size());
                due(run, story, "offered(" + o + ", " + set + ")", x.offered(o, set), m.offered(o, set));
        }
    }

    private static void ask(int run, StringBuilder story, EndMeters x, Model m) {
        int what = next(30) == 0 ? new int[] {-1, 2, Integer.MAX_VALUE}[next(3)] : next(2);
        int end = next(30) == 0 ? new int[] {-1, 2, Integer.MIN_VALUE}[next(3)] : next(2);
        int set = next(20) == 0 ? 0 : someSet(m);
        int k = someOf(m.lines);
        switch (next(13)) {
            case 0:
                int w = someOf(m.ways.size());
                int of = next(6) - 1;
                due(run, story, "told(" + w + ", " + of + ")", x.told(w, of), m.told(w, of));
                break;
            case 1:
                for (int c = -1; c < 10; c++) {
                    due(run, story, "count(" + c + ")", x.count(c), m.count(c));
                }
                break;
            case 2:
                due(run, story, "fits()", x.fits(), m.fits());
                break;
            case 3, 4:
                due(run, story, "bound(" + set + ", " + end + ", " + what + ")", x.bound(set, end, what), m.bound(set, end, what));
                break;
            case 5, 6:
                due(run, story, "shown(" + set + ", " + end + ", " + k + ", " + what + ")",
                        x.shown(set, end, k, what), m.shown(set, end, k, what));
                break;
            case 7:
                due(run, story, "settled(" + k + ")", x.settled(k), m.settled(k));
                break;
            case 8:
                due(run, story, "known(" + k + ")", x.known(k), m.known(k));
                due(run, story, "group(" + k + ")", x.group(k), m.group(k));
                break;
            case 9:
                askAll(run, story, "lying", x, m);
                break;
            case 10:
                askAll(run, story, "sick", x, m);
                break;
            case 11:
                askPair(run, story, x, what);
                break;
            default:
                due(run, story, "advice(" + set + ")", x.advice(set), m.advice(set));
        }
    }

    private static void askPair(int run, StringBuilder story, EndMeters x, int what) {
        int most = new int[] {3, 30, 1000000, 1000001}[next(4)];
        int n = next(most + 1);
        int a = next(n + 1) + (next(20) == 0 ? 1 : 0);
        int b = next(n + 1) - (next(20) == 0 ? 1 : 0);
        int both = next(8) == 0 ? next(most + 2) - 1 : next(Math.max(1, Math.min(a, b) + 1));
        int part = next(20) == 0 ? new int[] {-1, 3, Integer.MIN_VALUE}[next(3)] : next(3);
        due(run, story, "pair(" + n + ", " + a + ", " + b + ", " + both + ", " + part + ", " + what + ")",
                x.pair(n, a, b, both, part, what), pairDue(n, a, b, both, part, what));
    }

    private static long pairDue(int n, int a, int b, int both, int part, int what) {
        for (int number : new int[] {n, a, b, both}) {
            if (number < 0 || number > 1000000) {
                return -102;
            }
        }
        if (both > a || both > b || a > n || b > n || part < 0 || part > 2 || what < 0 || what > 1) {
            return -102;
        }
        if (both == 0) {
            return -103;
        }
        Part common = new Part(a, 1).times(new Part(b, 1)).over(new Part(n, 1)).over(new Part(both, 1));
        Part share = part == 0 ? common : part == 1 ? Part.of(both, b) : Part.of(both, a);
        return what == 0 ? share.upper() : share.lower();
    }

    private static void askAll(int run, StringBuilder story, String call, EndMeters x, Model m) {
        boolean lying = call.equals("lying");
        List<Integer> sets = lying ? m.lyingSets() : m.sickSets();
        for (int i = -2; i <= sets.size(); i++) {
            long want = i == -1 ? sets.size() : i >= 0 && i < sets.size() ? sets.get(i) : -102;
            due(run, story, call + "(" + i + ")", lying ? x.lying(i) : x.sick(i), want);
        }
    }

    private static void due(int run, StringBuilder story, String call, long got, long want) {
        calls++;
        story.append(call).append(' ');
        if (got != want) {
            wrong++;
            if (wrong < 20) {
                System.out.println("run " + run + ": " + story + "answered " + got + ", due is " + want);
            }
        }
    }

    /** A fraction in least terms, the lower number above 0. */
    private record Part(long upper, long lower) {
        static Part of(long upper, long lower) {
            long a = Math.abs(upper);
            long b = Math.abs(lower);
            while (b != 0) {
                long rest = a % b;
                a = b;
                b = rest;
            }
            long sign = lower < 0 ? -1 : 1;
            return new Part(sign * upper / a, sign * lower / a);
        }

        Part plus(Part o) {
            return of(Math.addExact(Math.multiplyExact(upper, o.lower), Math.multiplyExact(o.upper, lower)),
                    Math.multiplyExact(lower, o.lower));
        }

        Part times(Part o) {
            return of(Math.multiplyExact(upper, o.upper), Math.multiplyExact(lower, o.lower));
        }

        Part over(Part o) {
            return of(Math.multiplyExact(upper, o.lower), Math.multiplyExact(lower, o.upper));
        }

        Part minus() {
            return new Part(-upper, lower);
        }

        int against(Part o) {
            return Long.compare(Math.multiplyExact(upper, o.lower), Math.multiplyExact(o.upper, lower));
        }
    }

    private static final Part ZERO = new Part(0, 1);

    /** Clears the columns one by one; answers the columns that have a head of their own, row by row. */
    private static int[] reduce(Part[][] rows, int columns) {
        int[] heads = new int[rows.length];
        java.util.Arrays.fill(heads, -1);
        int top = 0;
        for (int column = 0; column < columns && top < rows.length; column++) {
            int at = top;
            while (at < rows.length && rows[at][column].upper() == 0) {
                at++;
            }
            if (at == rows.length) {
                continue;
            }
            Part[] head = rows[at];
            rows[at] = rows[top];
            rows[top] = head;
            Part first = head[column];
            for (int c = 0; c < head.length; c++) {
                head[c] = head[c].over(first);
            }
            for (int r = 0; r < rows.length; r++) {
                Part factor = rows[r][column].minus();
                if (r != top && factor.upper() != 0) {
                    for (int c = 0; c < head.length; c++) {
                        rows[r][c] = rows[r][c].plus(factor.times(head[c]));
                    }
                }
            }
            heads[top] = column;
            top++;
        }
        return heads;
    }

    private static int rank(List<Integer> sets, int lines) {
        Part[][] rows = new Part[sets.size()][lines];
        for (int r = 0; r < rows.length; r++) {
            for (int c = 0; c < lines; c++) {
                rows[r][c] = new Part(sets.get(r) >> c & 1, 1);
            }
        }
        int rank = 0;
        for (int head : reduce(rows, lines)) {
            rank += head < 0 ? 0 : 1;
        }
        return rank;
    }

    private static final class Model {
        int lines = 4;
        /** Of each: SET, SUM, ON, BAD. */
        final List<int[]> ways = new ArrayList<>();
        final List<Integer> offers = new ArrayList<>();
        List<Part[]> corners = null;

        int lines(int n) {
            if (n < 1 || n > 10) {
                return -102;
            }
            int before = lines;
            lines = n;
            ways.clear();
            offers.clear();
            corners = null;
            return before;
        }

        boolean isSet(int set) {
            return set >= 0 && set < 1 << lines;
        }

        boolean isWay(int w) {
            return w >= 0 && w < ways.size();
        }

        boolean isLine(int k) {
            return k >= 0 && k < lines;
        }

        int way(int set, int sum) {
            if (set == 0 || !isSet(set) || sum < 0 || sum > 100000) {
                return -102;
            }
            if (ways.size() == 10) {
                return -104;
            }
            ways.add(new int[] {set, sum, 1, 0});
            corners = null;
            return ways.size() - 1;
        }

        int put(int w, int field, int value) {
            int before = ways.get(w)[field];
            ways.get(w)[field] = value;
            corners = null;
            return before;
        }

        int sum(int w, int v) {
            return !isWay(w) ? -101 : v < 0 || v > 100000 ? -102 : put(w, 1, v);
        }

        int over(int w, int set) {
            return !isWay(w) ? -101 : set == 0 || !isSet(set) ? -102 : put(w, 0, set);
        }

        int on(int w, boolean is) {
            return !isWay(w) ? -101 : put(w, 2, is ? 1 : 0);
        }

        int bad(int w, boolean is) {
            return !isWay(w) ? -101 : put(w, 3, is ? 1 : 0);
        }

        int back() {
            if (ways.isEmpty()) {
                return -103;
            }
            ways.remove(ways.size() - 1);
            corners = null;
            return ways.size();
        }

        int told(int w, int what) {
            return !isWay(w) ? -101 : what < 0 || what > 3 ? -102 : ways.get(w)[what];
        }

        List<Integer> onSets() {
            List<Integer> sets = new ArrayList<>();
            for (int[] way : ways) {
                if (way[2] == 1) {
                    sets.add(way[0]);
                }
            }
            return sets;
        }

        int seen() {
            int seen = 0;
            for (int set : onSets()) {
                seen |= set;
            }
            return seen;
        }

        int count(int what) {
            int count = 0;
            switch (what) {
                case 0: return lines;
                case 1: return ways.size();
                case 2: return onSets().size();
                case 3: return rank(onSets(), lines);
                case 4: return Integer.bitCount(seen());
                case 5:
                    if (fits() == 0) {
                        return -103;
                    }
                    for (int k = 0; k < lines; k++) {
                        count += settled(k);
                    }
                    return count;
                case 6:
                    for (int k = 0; k < lines; k++) {
                        count += known(k);
                    }
                    return count;
                case 7:
                    for (int k = 0; k < lines; k++) {
                        count += Integer.lowestOneBit(group(k)) == 1 << k ? 1 : 0;
                    }
                    return count;
                case 8: return offers.size();
                default: return -102;
            }
        }

        int fits() {
            return corners().isEmpty() ? 0 : 1;
        }

        List<Part[]> corners() {
            if (corners == null) {
                List<int[]> used = new ArrayList<>();
                for (int[] way : ways) {
                    if (way[2] == 1) {
                        used.add(way);
                    }
                }
                corners = cornersOf(used, false);
            }
            return corners;
        }

        /** Every SOLUTION whose LINES with a DELAY can't be put together of one another. */
        List<Part[]> cornersOf(List<int[]> used, boolean oneIsEnough) {
            List<Part[]> found = new ArrayList<>();
            for (int held = 0; held < 1 << lines; held++) {
                if (Integer.bitCount(held) <= used.size()) {
                    Part[] corner = corner(used, held);
                    if (corner != null) {
                        found.add(corner);
                        if (oneIsEnough) {
                            return found;
                        }
                    }
                }
            }
            return found;
        }

        Part[] corner(List<int[]> used, int held) {
            int size = Integer.bitCount(held);
            Part[][] rows = new Part[used.size()][size + 1];
            for (int r = 0; r < rows.length; r++) {
                int c = 0;
                for (int k = 0; k < lines; k++) {
                    if ((held >> k & 1) == 1) {
                        rows[r][c++] = new Part(used.get(r)[0] >> k & 1, 1);
                    }
                }
                rows[r][size] = new Part(used.get(r)[1], 1);
            }
            int[] heads = reduce(rows, size);
            for (int r = 0; r < rows.length; r++) {
                if (r < size && heads[r] != r || r >= size && rows[r][size].upper() != 0 || r < size && rows[r][size].upper() < 0) {
                    return null;
                }
            }
            Part[] corner = new Part[lines];
            int c = 0;
            for (int k = 0; k < lines; k++) {
                corner[k] = (held >> k & 1) == 1 ? rows[c++][size] : ZERO;
            }
            return corner;
        }

        Part total(Part[] corner, int set) {
            Part total = ZERO;
            for (int k = 0; k < lines; k++) {
                if ((set >> k & 1) == 1) {
                    total = total.plus(corner[k]);
                }
            }
            return total;
        }

        /** The corner of THE SHOWN SOLUTION. */
        Part[] shownCorner(int set, int end) {
            Part[] best = null;
            for (Part[] corner : corners()) {
                if (best == null || isBetter(corner, best, set, end)) {
                    best = corner;
                }
            }
            return best;
        }

        boolean isBetter(Part[] corner, Part[] best, int set, int end) {
            int order = total(corner, set).against(total(best, set));
            if (order != 0) {
                return end == 0 ? order < 0 : order > 0;
            }
            for (int k = 0; k < lines; k++) {
                int byLine = corner[k].against(best[k]);
                if (byLine != 0) {
                    return byLine < 0;
                }
            }
            return false;
        }

        long bound(int set, int end, int what) {
            if (!isSet(set) || end < 0 || end > 1 || what < 0 || what > 1) {
                return -102;
            }
            if (fits() == 0) {
                return -103;
            }
            if (end == 1 && (set & ~seen()) != 0) {
                return -105;
            }
            Part total = total(shownCorner(set, end), set);
            return what == 0 ? total.upper() : total.lower();
        }

        long shown(int set, int end, int k, int what) {
            if (!isLine(k)) {
                return -101;
            }
            long bound = bound(set, end, what);
            if (bound < 0) {
                return bound;
            }
            Part delay = shownCorner(set, end)[k];
            return what == 0 ? delay.upper() : delay.lower();
        }

        int settled(int k) {
            if (!isLine(k)) {
                return -101;
            }
            if (fits() == 0) {
                return -103;
            }
            return bound(1 << k, 0, 0) == bound(1 << k, 1, 0) && bound(1 << k, 0, 1) == bound(1 << k, 1, 1) ? 1 : 0;
        }

        boolean isPutTogether(List<Integer> sets, int asked) {
            int rank = rank(sets, lines);
            for (int k = 0; k < lines; k++) {
                if ((asked >> k & 1) == 1) {
                    List<Integer> more = new ArrayList<>(sets);
                    more.add(1 << k);
                    if (rank(more, lines) != rank) {
                        return false;
                    }
                }
            }
            return true;
        }

        int known(int k) {
            return !isLine(k) ? -101 : isPutTogether(onSets(), 1 << k) ? 1 : 0;
        }

        int group(int k) {
            if (!isLine(k)) {
                return -101;
            }
            int group = 0;
            for (int other = 0; other < lines; other++) {
                boolean alike = true;
                for (int set : onSets()) {
                    alike &= (set >> k & 1) == (set >> other & 1);
                }
                group |= alike ? 1 << other : 0;
            }
            return group;
        }

        List<Integer> lyingSets() {
            List<Integer> found = new ArrayList<>();
            for (int size = 0; found.isEmpty(); size++) {
                for (int left = 0; left < 1 << ways.size(); left++) {
                    if (Integer.bitCount(left) == size && areOn(left) && fitsWithout(left)) {
                        found.add(left);
                    }
                }
            }
            return found;
        }

        boolean areOn(int set) {
            for (int w = 0; w < ways.size(); w++) {
                if ((set >> w & 1) == 1 && ways.get(w)[2] == 0) {
                    return false;
                }
            }
            return true;
        }

        boolean fitsWithout(int left) {
            List<int[]> used = new ArrayList<>();
            for (int w = 0; w < ways.size(); w++) {
                if (ways.get(w)[2] == 1 && (left >> w & 1) == 0) {
                    used.add(ways.get(w));
                }
            }
            return !cornersOf(used, true).isEmpty();
        }

        int offer(int set) {
            if (set == 0 || !isSet(set)) {
                return -102;
            }
            if (offers.size() == 10) {
                return -104;
            }
            offers.add(set);
            return offers.size() - 1;
        }

        int offered(int i, int set) {
            if (i < 0 || i >= offers.size()) {
                return -101;
            }
            return set == 0 || !isSet(set) ? -102 : offers.set(i, set);
        }

        int advice(int set) {
            if (!isSet(set)) {
                return -102;
            }
            int best = -1;
            for (int taken = 0; taken < 1 << offers.size(); taken++) {
                if (best == -1 || Integer.bitCount(taken) < Integer.bitCount(best)) {
                    List<Integer> sets = onSets();
                    for (int i = 0; i < offers.size(); i++) {
                        if ((taken >> i & 1) == 1) {
                            sets.add(offers.get(i));
                        }
                    }
                    if (isPutTogether(sets, set)) {
                        best = taken;
                    }
                }
            }
            return best;
        }

        List<Integer> sickSets() {
            List<Integer> found = new ArrayList<>();
            for (int size = 0; size <= lines && found.isEmpty(); size++) {
                for (int set = 0; set < 1 << lines; set++) {
                    if (Integer.bitCount(set) == size && explains(set)) {
                        found.add(set);
                    }
                }
            }
            return found;
        }

        boolean explains(int set) {
            for (int[] way : ways) {
                if (way[2] == 1 && ((way[0] & set) != 0) != (way[3] == 1)) {
                    return false;
                }
            }
            return true;
        }
    }
}
