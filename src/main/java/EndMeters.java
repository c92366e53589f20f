import java.util.Arrays;

/**
 * Lines within a net that nobody sees, told from ways over them that are measured at their ends.
 * The words in capitals are those of the document's section "Terms".
 */
public final class EndMeters {
    public static final int NONE = -1, UNKNOWN = -101, OUTSIDE = -102, STATE = -103, FULL = -104, ENDLESS = -105;

    private static final int MOST_LINES = 10;
    private static final int MOST_WAYS = 10;
    private static final int MOST_OFFERS = 10;
    private static final int LINES_AT_FIRST = 4;
    private static final int GREATEST_SUM = 100000;
    private static final int GREATEST_SENT = 1000000;

    private final Net net;
    private final Delays delays;
    private final Liars liars;
    private final Spans spans;
    private final SickLines sickLines;

    public EndMeters() {
        net = new Net();
        delays = new Delays();
        liars = new Liars();
        spans = new Spans();
        sickLines = new SickLines();
    }

    // ---- the net

    public int lines(int n) {
        if (n < 1 || n > MOST_LINES) {
            return OUTSIDE;
        }
        int before = net.lineCount;
        net.startAnew(n);
        forgetAnswers();
        return before;
    }

    public int way(int set, int sum) {
        if (!net.isFilledLineSet(set) || !isSum(sum)) {
            return OUTSIDE;
        }
        if (net.wayCount >= MOST_WAYS) {
            return FULL;
        }
        forgetAnswers();
        return net.addWay(set, sum);
    }

    public int sum(int w, int v) {
        if (!net.hasWay(w)) {
            return UNKNOWN;
        }
        if (!isSum(v)) {
            return OUTSIDE;
        }
        int before = net.waySum[w];
        net.waySum[w] = v;
        forgetAnswers();
        return before;
    }

    public int over(int w, int set) {
        if (!net.hasWay(w)) {
            return UNKNOWN;
        }
        if (!net.isFilledLineSet(set)) {
            return OUTSIDE;
        }
        int before = net.waySet[w];
        net.waySet[w] = set;
        forgetAnswers();
        return before;
    }

    public int on(int w, boolean is) {
        if (!net.hasWay(w)) {
            return UNKNOWN;
        }
        int before = bitOf(net.onWays, w);
        net.onWays = withBit(net.onWays, w, is);
        forgetAnswers();
        return before;
    }

    public int bad(int w, boolean is) {
        if (!net.hasWay(w)) {
            return UNKNOWN;
        }
        int before = bitOf(net.badWays, w);
        net.badWays = withBit(net.badWays, w, is);
        return before;
    }

    public int back() {
        if (net.wayCount == 0) {
            return STATE;
        }
        net.dropLastWay();
        forgetAnswers();
        return net.wayCount;
    }

    public int told(int w, int what) {
        if (!net.hasWay(w)) {
            return UNKNOWN;
        }
        switch (what) {
            case 0: return net.waySet[w];
            case 1: return net.waySum[w];
            case 2: return bitOf(net.onWays, w);
            case 3: return bitOf(net.badWays, w);
            default: return OUTSIDE;
        }
    }

    public int count(int what) {
        switch (what) {
            case 0: return net.lineCount;
            case 1: return net.wayCount;
            case 2: return Integer.bitCount(net.onWays);
            case 3: return spans.rankOfWays(net);
            case 4: return Integer.bitCount(net.seenLines());
            case 5: return settledLines();
            case 6: return Integer.bitCount(spans.linesFromWays(net));
            case 7: return net.groupCount();
            case 8: return net.offerCount;
            default: return OUTSIDE;
        }
    }

    // ---- what lies within

    public int fits() {
        return delays.solve(net, net.onWays) ? 1 : 0;
    }

    public long bound(int set, int end, int what) {
        if (!net.isLineSet(set) || !isZeroOrOne(end) || !isZeroOrOne(what)) {
            return OUTSIDE;
        }
        if (!delays.solve(net, net.onWays)) {
            return STATE;
        }
        if (isEndless(set, end)) {
            return ENDLESS;
        }
        delays.goToEnd(set, end);
        return partOfFraction(delays.upperOf(set), delays.scale, what);
    }

    public long shown(int set, int end, int k, int what) {
        if (!net.hasLine(k)) {
            return UNKNOWN;
        }
        if (!net.isLineSet(set) || !isZeroOrOne(end) || !isZeroOrOne(what)) {
            return OUTSIDE;
        }
        if (!delays.solve(net, net.onWays)) {
            return STATE;
        }
        if (isEndless(set, end)) {
            return ENDLESS;
        }
        delays.goToEnd(set, end);
        delays.leastInTurnUpTo(k);
        return partOfFraction(delays.upperOf(1 << k), delays.scale, what);
    }

    public int settled(int k) {
        if (!net.hasLine(k)) {
            return UNKNOWN;
        }
        if (!delays.solve(net, net.onWays)) {
            return STATE;
        }
        return isSettledLine(k) ? 1 : 0;
    }

    public int known(int k) {
        if (!net.hasLine(k)) {
            return UNKNOWN;
        }
        return bitOf(spans.linesFromWays(net), k);
    }

    public int group(int k) {
        if (!net.hasLine(k)) {
            return UNKNOWN;
        }
        return net.linesAlike(k);
    }

    // ---- meters that lie, ways to add

    public int lying(int i) {
        return liars.leastSets(net, delays).answer(i);
    }

    public int offer(int set) {
        if (!net.isFilledLineSet(set)) {
            return OUTSIDE;
        }
        if (net.offerCount >= MOST_OFFERS) {
            return FULL;
        }
        return net.addOffer(set);
    }

    public int offered(int i, int set) {
        if (!net.hasOffer(i)) {
            return UNKNOWN;
        }
        if (!net.isFilledLineSet(set)) {
            return OUTSIDE;
        }
        int before = net.offerSet[i];
        net.offerSet[i] = set;
        return before;
    }

    public int advice(int set) {
        if (!net.isLineSet(set)) {
            return OUTSIDE;
        }
        return spans.fewestOffers(net, set);
    }

    // ---- sick lines, shares

    public int sick(int i) {
        return sickLines.leastSets(net).answer(i);
    }

    public long pair(int n, int a, int b, int both, int part, int what) {
        if (!isPair(n, a, b, both) || part < 0 || part > 2 || !isZeroOrOne(what)) {
            return OUTSIDE;
        }
        if (both == 0) {
            return STATE;
        }
        if (part == 0) {
            return partOfFraction((long) a * b, (long) n * both, what);
        }
        return partOfFraction(both, part == 1 ? b : a, what);
    }

    private void forgetAnswers() {
        delays.forget();
        liars.forget();
    }

    private boolean isEndless(int set, int end) {
        return end == 1 && (set & ~net.seenLines()) != 0;
    }

    private int settledLines() {
        if (!delays.solve(net, net.onWays)) {
            return STATE;
        }
        int lines = 0;
        for (int line = 0; line < net.lineCount; line++) {
            if (isSettledLine(line)) {
                lines++;
            }
        }
        return lines;
    }

    /** To be asked only when there is a SOLUTION. */
    private boolean isSettledLine(int line) {
        int set = 1 << line;
        if (isEndless(set, 1)) {
            return false;
        }
        delays.goToEnd(set, 0);
        long leastUpper = delays.upperOf(set);
        long leastLower = delays.scale;
        delays.goToEnd(set, 1);
        return leastUpper * delays.scale == delays.upperOf(set) * leastLower;
    }

    private static boolean isSum(int sum) {
        return sum >= 0 && sum <= GREATEST_SUM;
    }

    private static boolean isZeroOrOne(int value) {
        return value == 0 || value == 1;
    }

    /** With both at least 0, not above a and b, and these not above n, no number can be below 0. */
    private static boolean isPair(int n, int a, int b, int both) {
        return n <= GREATEST_SENT && a <= n && b <= n && both <= a && both <= b && both >= 0;
    }

    private static int bitOf(int set, int place) {
        return set >> place & 1;
    }

    private static int withBit(int set, int place, boolean is) {
        return is ? set | 1 << place : set & ~(1 << place);
    }

    private static long partOfFraction(long upper, long lower, int what) {
        long divisor = greatestDivisor(upper, lower);
        long part = what == 0 ? upper : lower;
        return divisor > 0 ? part / divisor : part;
    }

    private static long greatestDivisor(long first, long second) {
        long greater = first;
        long smaller = second;
        // Two longs need fewer than a hundred steps.
        for (int step = 0; step < 100 && smaller != 0; step++) {
            long rest = greater % smaller;
            greater = smaller;
            smaller = rest;
        }
        return greater;
    }

    /** The LINES, WAYS and OFFERS as they stand. */
    private static final class Net {
        final int[] waySet = new int[MOST_WAYS];
        final int[] waySum = new int[MOST_WAYS];
        final int[] offerSet = new int[MOST_OFFERS];
        int lineCount = LINES_AT_FIRST;
        int wayCount;
        int offerCount;
        int onWays;
        int badWays;

        void startAnew(int lines) {
            lineCount = lines;
            wayCount = 0;
            offerCount = 0;
            onWays = 0;
            badWays = 0;
        }

        boolean hasLine(int line) {
            return line >= 0 && line < lineCount;
        }

        boolean hasWay(int way) {
            return way >= 0 && way < wayCount;
        }

        boolean hasOffer(int number) {
            return number >= 0 && number < offerCount;
        }

        boolean isLineSet(int set) {
            return set >= 0 && set < 1 << lineCount;
        }

        boolean isFilledLineSet(int set) {
            return set != 0 && isLineSet(set);
        }

        /** To be called only when there is room. */
        int addWay(int set, int sum) {
            int way = wayCount;
            waySet[way] = set;
            waySum[way] = sum;
            onWays = withBit(onWays, way, true);
            badWays = withBit(badWays, way, false);
            wayCount++;
            return way;
        }

        /** To be called only when there is a WAY. */
        void dropLastWay() {
            wayCount--;
            onWays = withBit(onWays, wayCount, false);
            badWays = withBit(badWays, wayCount, false);
        }

        /** To be called only when there is room. */
        int addOffer(int set) {
            int number = offerCount;
            offerSet[number] = set;
            offerCount++;
            return number;
        }

        boolean isOn(int way) {
            return bitOf(onWays, way) == 1;
        }

        int seenLines() {
            int seen = 0;
            for (int way = 0; way < wayCount; way++) {
                if (isOn(way)) {
                    seen |= waySet[way];
                }
            }
            return seen;
        }

        int linesAlike(int line) {
            int alike = (1 << lineCount) - 1;
            for (int way = 0; way < wayCount; way++) {
                if (isOn(way)) {
                    alike &= bitOf(waySet[way], line) == 1 ? waySet[way] : ~waySet[way];
                }
            }
            return alike;
        }

        int groupCount() {
            int groups = 0;
            for (int line = 0; line < lineCount; line++) {
                int earlierLines = (1 << line) - 1;
                if ((linesAlike(line) & earlierLines) == 0) {
                    groups++;
                }
            }
            return groups;
        }
    }

    /** Some SETS of ten at most, none of which lies within another one. */
    private static final class SetList {
        /** There are no more than these, the SETS of five of ten (Sperner). */
        static final int MOST_SETS = 252;

        final int[] sets = new int[MOST_SETS];
        int size;

        void empty() {
            size = 0;
        }

        void add(int set) {
            if (size < MOST_SETS) {
                sets[size] = set;
                size++;
            }
        }

        int answer(int i) {
            if (i == NONE) {
                return size;
            }
            return i >= 0 && i < size ? sets[i] : OUTSIDE;
        }
    }

    /**
     * The SOLUTIONS for some WAYS, walked from corner to corner (the simplex method) in whole numbers:
     * a row for each of these WAYS, a column for each LINE, then one for the SLACK of each row (what
     * the LINES leave of its SUM), and the SUM in the last column; all of it stands for itself divided
     * by the scale. The numbers are determinants of zeros and ones and of SUMS, so a long holds them.
     */
    private static final class Delays {
        /** Far above the number of corners that ten rows can have. */
        static final int MOST_STEPS = 1000000;

        final long[] table = new long[MOST_WAYS * (MOST_LINES + MOST_WAYS + 1)];
        /** The LINE that a row tells the DELAY of; NONE while that is still its slack. */
        final int[] holder = new int[MOST_WAYS];
        final int[] wayOfRow = new int[MOST_WAYS];
        final int[] lineCost = new int[MOST_LINES];
        int slackCost;
        int lineCount;
        int rows;
        int width;
        long scale = 1;
        /** LINES whose DELAY has to stay 0, as the goals reached so far would suffer else. */
        int barred;
        /** The WAYS that the table is for. */
        int loaded = NONE;
        boolean possible;
        /** If there is no SOLUTION: WAYS that by themselves have none. */
        int clash;

        void forget() {
            loaded = NONE;
        }

        /** Whether there is a SOLUTION for these WAYS; the table then stands at one. */
        boolean solve(Net net, int ways) {
            if (ways == loaded) {
                return possible;
            }
            load(net, ways);
            setGoal(0, 0, 1);
            walkToLeast();
            possible = costOfColumn(width - 1) == 0;
            if (possible) {
                dropSlacks();
            } else {
                clash = waysThatClash();
            }
            loaded = ways;
            return possible;
        }

        /** From any corner to one with the LEAST (end 0) or GREATEST (end 1) sum of a SET. */
        void goToEnd(int set, int end) {
            barred = 0;
            setGoal(set, end == 0 ? 1 : -1, 0);
            walkToLeast();
        }

        /** On from an end, without leaving it: the least DELAY of LINE 0, then that of LINE 1, and so on. */
        void leastInTurnUpTo(int last) {
            for (int line = 0; line <= last && line < lineCount; line++) {
                barWhatCosts();
                setGoal(1 << line, 1, 0);
                walkToLeast();
            }
        }

        /** The sum of the DELAYS of a SET where the table stands, times the scale. */
        long upperOf(int set) {
            long upper = 0;
            for (int row = 0; row < rows; row++) {
                if (holder[row] >= 0 && bitOf(set, holder[row]) == 1) {
                    upper += table[row * width + width - 1];
                }
            }
            return upper;
        }

        private void load(Net net, int ways) {
            lineCount = net.lineCount;
            rows = Integer.bitCount(ways);
            width = lineCount + rows + 1;
            scale = 1;
            barred = 0;
            Arrays.fill(table, 0);
            int row = 0;
            for (int way = 0; way < net.wayCount; way++) {
                if (bitOf(ways, way) == 1) {
                    loadRow(row, net.waySet[way], net.waySum[way]);
                    wayOfRow[row] = way;
                    row++;
                }
            }
        }

        private void loadRow(int row, int set, int sum) {
            int start = row * width;
            for (int line = 0; line < lineCount; line++) {
                table[start + line] = bitOf(set, line);
            }
            table[start + lineCount + row] = 1;
            table[start + width - 1] = sum;
            holder[row] = NONE;
        }

        private void setGoal(int set, int costInSet, int costOfSlack) {
            for (int line = 0; line < lineCount; line++) {
                lineCost[line] = bitOf(set, line) == 1 ? costInSet : 0;
            }
            slackCost = costOfSlack;
        }

        /** Always the first LINE that helps and the first holder of those that give way: so it never goes in circles. */
        private void walkToLeast() {
            for (int step = 0; step < MOST_STEPS; step++) {
                int line = firstLineThatHelps();
                if (line == NONE) {
                    return;
                }
                int row = rowThatGivesWay(line);
                if (row == NONE) {
                    return;
                }
                exchange(row, line);
            }
        }

        private int firstLineThatHelps() {
            for (int line = 0; line < lineCount; line++) {
                if (bitOf(barred, line) == 0 && scale * lineCost[line] < costOfColumn(line)) {
                    return line;
                }
            }
            return NONE;
        }

        private long costOfColumn(int column) {
            long cost = 0;
            for (int row = 0; row < rows; row++) {
                int rowCost = holder[row] < 0 ? slackCost : lineCost[holder[row]];
                cost += rowCost * table[row * width + column];
            }
            return cost;
        }

        private int rowThatGivesWay(int line) {
            int best = NONE;
            for (int row = 0; row < rows; row++) {
                if (table[row * width + line] > 0 && (best == NONE || givesWayBefore(row, best, line))) {
                    best = row;
                }
            }
            return best;
        }

        private boolean givesWayBefore(int row, int other, int line) {
            int start = row * width;
            int otherStart = other * width;
            long left = table[start + width - 1] * table[otherStart + line];
            long right = table[otherStart + width - 1] * table[start + line];
            return left < right || left == right && holder[row] < holder[other];
        }

        private void exchange(int row, int line) {
            int start = row * width;
            if (table[start + line] < 0) {
                turnSigns(start);
            }
            long head = table[start + line];
            if (head == 0 || scale == 0) {
                return;
            }
            for (int other = 0; other < rows; other++) {
                if (other != row) {
                    clearColumn(other * width, start, line);
                }
            }
            scale = head;
            holder[row] = line;
        }

        /** Only a row whose slack is 0 is turned, so no DELAY falls below 0 by it. */
        private void turnSigns(int start) {
            for (int column = 0; column < width; column++) {
                table[start + column] = -table[start + column];
            }
        }

        private void clearColumn(int start, int headStart, int line) {
            long head = table[headStart + line];
            long factor = table[start + line];
            if (scale == 0 || factor == 0 && head == scale) {
                return;
            }
            for (int column = 0; column < width; column++) {
                long crossed = table[start + column] * head - factor * table[headStart + column];
                table[start + column] = crossed / scale;
            }
        }

        /** A row where no LINE can take the slack's place says nothing new; its slack stays 0. */
        private void dropSlacks() {
            for (int row = 0; row < rows; row++) {
                for (int line = 0; line < lineCount && holder[row] < 0; line++) {
                    if (table[row * width + line] != 0) {
                        exchange(row, line);
                    }
                }
            }
        }

        /** The WAYS whose SUMS, times their slack's cost, put together contradict DELAYS not below 0. */
        private int waysThatClash() {
            int ways = 0;
            for (int row = 0; row < rows; row++) {
                if (costOfColumn(lineCount + row) != 0) {
                    ways |= 1 << wayOfRow[row];
                }
            }
            return ways;
        }

        private void barWhatCosts() {
            for (int line = 0; line < lineCount; line++) {
                if (scale * lineCost[line] > costOfColumn(line)) {
                    barred |= 1 << line;
                }
            }
        }
    }

    /** The LYING SETS, found by leaving out ever more WAYS. */
    private static final class Liars {
        final SetList found = new SetList();
        /** WAYS that by themselves have no SOLUTION: a LYING SET holds one of each such SET. */
        final SetList clashes = new SetList();
        boolean upToDate;

        void forget() {
            upToDate = false;
        }

        SetList leastSets(Net net, Delays delays) {
            if (upToDate) {
                return found;
            }
            found.empty();
            clashes.empty();
            int most = Integer.bitCount(net.onWays);
            for (int size = 0; size <= most && found.size == 0; size++) {
                findOfSize(size, net, delays);
            }
            upToDate = true;
            return found;
        }

        private void findOfSize(int size, Net net, Delays delays) {
            for (int left = 0; left <= net.onWays; left++) {
                boolean fitting = (left & ~net.onWays) == 0 && Integer.bitCount(left) == size;
                if (!fitting || !breaksAllClashes(left)) {
                    continue;
                }
                if (delays.solve(net, net.onWays & ~left)) {
                    found.add(left);
                } else {
                    clashes.add(leastClash(delays.clash, net, delays));
                }
            }
        }

        private boolean breaksAllClashes(int left) {
            for (int i = 0; i < clashes.size; i++) {
                if ((clashes.sets[i] & left) == 0) {
                    return false;
                }
            }
            return true;
        }

        /** A clash that no WAY can be taken from spares more trials than a great one. */
        private static int leastClash(int ways, Net net, Delays delays) {
            int clash = ways;
            for (int way = 0; way < net.wayCount; way++) {
                int others = withBit(clash, way, false);
                if (others != clash && !delays.solve(net, others)) {
                    clash = delays.clash;
                }
            }
            return clash;
        }
    }

    /**
     * What is put together of what: rows of zeros and ones for the WAYS that are ON, the OFFERS and
     * each LINE alone. Taking a row clears a column of it in the rows that are not taken yet; one that
     * has become empty is put together of those taken. There is a table for each number (the depth) of
     * OFFERS taken. Cross products are divided by the head before, which leaves no rest (Bareiss), and are
     * determinants of ten rows of zeros and ones at most: an int holds them.
     */
    private static final class Spans {
        static final int FIRST_OFFER = MOST_WAYS;
        static final int FIRST_LINE = MOST_WAYS + MOST_OFFERS;
        static final int ROWS = MOST_WAYS + MOST_OFFERS + MOST_LINES;

        final int[] cells = new int[(MOST_OFFERS + 1) * ROWS * MOST_LINES];
        /** The SET of OFFERS that the table of a depth is for; NONE: it is for none. */
        final int[] takenAt = new int[MOST_OFFERS + 1];
        /** The head that was cleared with last, up to the table of a depth. */
        final int[] headAt = new int[MOST_OFFERS + 1];
        int lineCount;
        int rank;
        /** The LINES that THE ADVICE is asked for. */
        int asked;

        int rankOfWays(Net net) {
            takeWays(net);
            return rank;
        }

        int linesFromWays(Net net) {
            takeWays(net);
            int lines = 0;
            for (int line = 0; line < lineCount; line++) {
                if (firstFilledColumn(0, FIRST_LINE + line) == NONE) {
                    lines |= 1 << line;
                }
            }
            return lines;
        }

        /**
         * Goes through the SETS of OFFERS by rising numbers, so that of several with as few the first
         * one stays.
         */
        int fewestOffers(Net net, int set) {
            takeWays(net);
            asked = set;
            int best = NONE;
            int fewest = MOST_OFFERS + 1;
            int sets = allOffersDo(net.offerCount) ? 1 << net.offerCount : 0;
            for (int taken = 0; taken < sets; taken++) {
                int depth = Integer.bitCount(taken);
                if (depth < fewest && takeSet(taken) && allAskedAreEmpty(depth)) {
                    best = taken;
                    fewest = depth;
                }
            }
            return best;
        }

        private static int startOf(int depth, int row) {
            return (depth * ROWS + row) * MOST_LINES;
        }

        private void takeWays(Net net) {
            load(net);
            rank = 0;
            headAt[0] = 1;
            for (int way = 0; way < net.wayCount; way++) {
                int column = firstFilledColumn(0, way);
                if (column != NONE) {
                    takeWay(way, column);
                }
            }
        }

        private void load(Net net) {
            lineCount = net.lineCount;
            for (int way = 0; way < MOST_WAYS; way++) {
                boolean counts = way < net.wayCount && net.isOn(way);
                loadRow(way, counts ? net.waySet[way] : 0);
            }
            for (int number = 0; number < MOST_OFFERS; number++) {
                loadRow(FIRST_OFFER + number, number < net.offerCount ? net.offerSet[number] : 0);
            }
            for (int line = 0; line < MOST_LINES; line++) {
                loadRow(FIRST_LINE + line, 1 << line);
            }
        }

        private void loadRow(int row, int set) {
            int start = startOf(0, row);
            for (int line = 0; line < lineCount; line++) {
                cells[start + line] = bitOf(set, line);
            }
        }

        private int firstFilledColumn(int depth, int row) {
            int start = startOf(depth, row);
            for (int column = 0; column < lineCount; column++) {
                if (cells[start + column] != 0) {
                    return column;
                }
            }
            return NONE;
        }

        private void takeWay(int way, int column) {
            int headStart = startOf(0, way);
            for (int row = way + 1; row < FIRST_LINE + lineCount; row++) {
                clearColumn(startOf(0, row), startOf(0, row), headStart, column, headAt[0]);
            }
            headAt[0] = cells[headStart + column];
            rank++;
        }

        /**
         * Makes the table of a SET from that of the SET without its first OFFER, which came earlier.
         * There is none, if an OFFER is put together of others: such a SET is never the least one.
         */
        private boolean takeSet(int taken) {
            if (taken == 0) {
                return true;
            }
            int depth = Integer.bitCount(taken) - 1;
            if (takenAt[depth] != (taken & taken - 1)) {
                return false;
            }
            int firstOffer = Integer.bitCount(taken - 1 & ~taken);
            return takeOffer(depth, firstOffer);
        }

        /** Into the next table go only rows that are still asked for: those of OFFERS below, of LINES asked. */
        private boolean takeOffer(int depth, int number) {
            int column = depth < MOST_OFFERS ? firstFilledColumn(depth, FIRST_OFFER + number) : NONE;
            if (column == NONE) {
                return false;
            }
            int headStart = startOf(depth, FIRST_OFFER + number);
            for (int row = FIRST_OFFER; row < FIRST_LINE + lineCount; row++) {
                boolean matters = row < FIRST_LINE ? row < FIRST_OFFER + number : bitOf(asked, row - FIRST_LINE) == 1;
                if (matters) {
                    clearColumn(startOf(depth, row), startOf(depth + 1, row), headStart, column, headAt[depth]);
                }
            }
            headAt[depth + 1] = cells[headStart + column];
            takenAt[depth + 1] = takenAt[depth] | 1 << number;
            return true;
        }

        private void clearColumn(int from, int to, int headStart, int column, int headBefore) {
            if (headBefore == 0) {
                return;
            }
            int head = cells[headStart + column];
            int factor = cells[from + column];
            for (int line = 0; line < lineCount; line++) {
                int crossed = cells[from + line] * head - factor * cells[headStart + line];
                cells[to + line] = crossed / headBefore;
            }
        }

        private boolean allAskedAreEmpty(int depth) {
            for (int line = 0; line < lineCount; line++) {
                if (bitOf(asked, line) == 1 && firstFilledColumn(depth, FIRST_LINE + line) != NONE) {
                    return false;
                }
            }
            return true;
        }

        /** Spares the search where it would find nothing. */
        private boolean allOffersDo(int offers) {
            Arrays.fill(takenAt, NONE);
            takenAt[0] = 0;
            int depth = 0;
            for (int number = offers - 1; number >= 0; number--) {
                if (takeOffer(depth, number)) {
                    depth++;
                }
            }
            return allAskedAreEmpty(depth);
        }
    }

    /** The SICK SETS. */
    private static final class SickLines {
        final SetList found = new SetList();

        SetList leastSets(Net net) {
            found.empty();
            int suspects = linesOfNoGoodWay(net);
            int leastSize = MOST_LINES;
            for (int set = 0; set <= suspects; set++) {
                int size = Integer.bitCount(set);
                if ((set & ~suspects) == 0 && size <= leastSize && meetsAllBadWays(net, set)) {
                    if (size < leastSize) {
                        found.empty();
                        leastSize = size;
                    }
                    found.add(set);
                }
            }
            return found;
        }

        private static int linesOfNoGoodWay(Net net) {
            int suspects = (1 << net.lineCount) - 1;
            for (int way = 0; way < net.wayCount; way++) {
                if (net.isOn(way) && bitOf(net.badWays, way) == 0) {
                    suspects &= ~net.waySet[way];
                }
            }
            return suspects;
        }

        private static boolean meetsAllBadWays(Net net, int set) {
            for (int way = 0; way < net.wayCount; way++) {
                boolean isBad = net.isOn(way) && bitOf(net.badWays, way) == 1;
                if (isBad && (net.waySet[way] & set) == 0) {
                    return false;
                }
            }
            return true;
        }
    }
}
