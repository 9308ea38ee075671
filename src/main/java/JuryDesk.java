import java.util.Arrays;

/**
 * A jury's desk: verdicts that one entry is better than another, as they come and are taken back,
 * and what they leave open of the final order.
 */
public final class JuryDesk {
    public static final int NONE = -1;

    private static final int HEATS = 12;
    private static final int ENTRIES = 16;
    private static final int SETS = 1 << ENTRIES;
    private static final int HALF_ENTRIES = 8;
    private static final int HALF = 1 << HALF_ENTRIES;
    private static final int VERDICTS = 400;
    private static final int AGAINST_SETTLED = 0;
    private static final int NO_ROOM = -2;
    // Euclid's way takes fewer than a hundred steps for any two longs.
    private static final int DIVISIONS = 200;

    private final Heat[] heats = new Heat[HEATS];
    private final int[] row = new int[ENTRIES];
    private final Reason reason = new Reason();
    private final Lattice lattice = new Lattice();
    /** The heat whose sets the lattice holds now: one lattice serves all heats, as it is large. */
    private int loaded = NONE;

    public JuryDesk() {
        Arrays.fill(row, NONE);
    }

    public void heat(int h, int n) throws IllegalArgumentException {
        if (h < 0 || h >= HEATS || n < 1 || n > ENTRIES) {
            throw new IllegalArgumentException("no such heat, or no such number of entries");
        }
        if (heats[h] == null) {
            heats[h] = new Heat();
        }
        heats[h].begin(n);
        unload(h);
    }

    public int better(int h, int a, int b) {
        Heat heat = find(h);
        if (heat == null || !heat.has(a) || !heat.has(b)) {
            return NONE;
        }
        if (a == b || heat.isAbove(b, a)) {
            reason.trace(heat, b, a);
            return AGAINST_SETTLED;
        }
        if (heat.verdicts >= VERDICTS) {
            return NO_ROOM;
        }
        heat.write(a, b);
        unload(h);
        return heat.verdicts;
    }

    public int whyLast() {
        return reason.length;
    }

    public int why(int i) {
        return i >= 0 && i < reason.length ? reason.numbers[i] : NONE;
    }

    public boolean withdraw(int h, int v) {
        Heat heat = find(h);
        if (heat == null || v < 1 || v > heat.verdicts || heat.withdrawn[v - 1]) {
            return false;
        }
        heat.takeBack(v - 1);
        unload(h);
        return true;
    }

    public boolean scratch(int h, int a) {
        Heat heat = find(h);
        if (heat == null || !heat.has(a) || heat.size() == 1) {
            return false;
        }
        heat.remove(a);
        unload(h);
        return true;
    }

    public boolean settled(int h, int a, int b) {
        Heat heat = find(h);
        return heat != null && heat.isAbove(a, b);
    }

    public boolean direct(int h, int a, int b) {
        Heat heat = find(h);
        return heat != null && heat.isAbove(a, b) && (heat.below[a] & heat.above[b]) == 0;
    }

    public long orders(int h) {
        Heat heat = find(h);
        return heat == null ? 0 : total(h, heat);
    }

    public long atRank(int h, int a, int r) {
        Heat heat = find(h);
        if (heat == null || !heat.has(a) || r < 1 || r > ENTRIES) {
            return 0;
        }
        tally(h, heat);
        return heat.tally.standing[a * ENTRIES + r - 1];
    }

    public long before(int h, int a, int b) {
        Heat heat = find(h);
        if (heat == null || !heat.has(a) || !heat.has(b) || a == b) {
            return 0;
        }
        tally(h, heat);
        return heat.tally.ahead[a * ENTRIES + b];
    }

    public long meanRank(int h, int a, boolean numerator) {
        Heat heat = find(h);
        if (heat == null || !heat.has(a)) {
            return 0;
        }
        tally(h, heat);
        return inLowestTerms(heat.tally.sumOfRanks(a), heat.tally.total, numerator);
    }

    public long chance(long num, long den, boolean numerator) throws IllegalArgumentException {
        if (num < 0 || den < 1) {
            throw new IllegalArgumentException("no such fraction");
        }
        return inLowestTerms(num, den, numerator);
    }

    public int order(int h, long n, int r) {
        Heat heat = find(h);
        if (heat == null || r < 1 || r > heat.size() || n < 0 || n >= total(h, heat)) {
            return NONE;
        }
        load(h, heat);
        return lattice.entryAt(heat, n, r);
    }

    public int give(int r, int a) throws IllegalArgumentException {
        if (r < 1 || r > ENTRIES || a < NONE || a >= ENTRIES) {
            throw new IllegalArgumentException("no such rank or entry");
        }
        int stood = row[r - 1];
        row[r - 1] = a;
        return stood;
    }

    public long numberOf(int h) {
        Heat heat = find(h);
        if (heat == null || !heat.allows(row)) {
            return NONE;
        }
        load(h, heat);
        return lattice.numberOfRow(heat, row);
    }

    public int ask(int h, int what) {
        Heat heat = find(h);
        if (heat == null || what < 0 || what > 1) {
            return NONE;
        }
        tally(h, heat);
        int pair = heat.tally.evenestPair(heat);
        if (pair == NONE) {
            return NONE;
        }
        return what == 0 ? pair / ENTRIES : pair % ENTRIES;
    }

    public int tie(int h) {
        Heat heat = find(h);
        return heat == null ? 0 : rowsOf(heat).width;
    }

    public int tieEntry(int h, int i) {
        Heat heat = find(h);
        if (heat == null || i < 0) {
            return NONE;
        }
        return rowsOf(heat).tied(i);
    }

    public int chains(int h) {
        Heat heat = find(h);
        // The widest tie and the fewest rows are equally many (Dilworth).
        return heat == null ? 0 : rowsOf(heat).width;
    }

    public int follows(int h, int a) {
        Heat heat = find(h);
        if (heat == null || !heat.has(a)) {
            return NONE;
        }
        return rowsOf(heat).follower[a];
    }

    public int count(int h, int what) {
        if (what < 0 || what > 3) {
            return NONE;
        }
        Heat heat = find(h);
        if (heat == null) {
            return 0;
        }
        switch (what) {
            case 0:
                return heat.size();
            case 1:
                return heat.verdicts;
            case 2:
                return heat.verdictsInForce();
            default:
                return heat.settledPairs();
        }
    }

    private Heat find(int h) {
        return h < 0 || h >= HEATS ? null : heats[h];
    }

    private void load(int h, Heat heat) {
        if (loaded != h) {
            lattice.load(heat);
            heat.tally.total = lattice.total(heat);
            loaded = h;
        }
    }

    private void unload(int h) {
        if (loaded == h) {
            loaded = NONE;
        }
    }

    private long total(int h, Heat heat) {
        if (heat.tally.total == 0) {
            load(h, heat);
        }
        return heat.tally.total;
    }

    private void tally(int h, Heat heat) {
        if (!heat.tally.known) {
            load(h, heat);
            lattice.fill(heat);
        }
    }

    private static Rows rowsOf(Heat heat) {
        if (!heat.rows.known) {
            heat.rows.arrange(heat);
        }
        return heat.rows;
    }

    private static boolean holds(int set, int a) {
        return (set >> a & 1) != 0;
    }

    private static long inLowestTerms(long num, long den, boolean numerator) {
        long divisor = commonDivisor(num, den);
        return numerator ? num / divisor : den / divisor;
    }

    private static long commonDivisor(long a, long b) {
        long great = a;
        long small = b;
        for (int i = 0; i < DIVISIONS && small != 0; i++) {
            long rest = great % small;
            great = small;
            small = rest;
        }
        return great < 1 ? 1 : great;
    }

    /** One heat: its entries, its verdicts, and what is settled by those in force. */
    private static final class Heat {
        final byte[] upper = new byte[VERDICTS];
        final byte[] lower = new byte[VERDICTS];
        final boolean[] withdrawn = new boolean[VERDICTS];
        /** Of each entry the set of those settled below it, a bit for each. */
        final int[] below = new int[ENTRIES];
        final int[] above = new int[ENTRIES];
        final Tally tally = new Tally();
        final Rows rows = new Rows();
        /** The set of the entries that are not scratched. */
        int live;
        int verdicts;

        void begin(int n) {
            live = (1 << n) - 1;
            verdicts = 0;
            settle();
        }

        void write(int a, int b) {
            upper[verdicts] = (byte) a;
            lower[verdicts] = (byte) b;
            withdrawn[verdicts] = false;
            verdicts++;
            settle();
        }

        void takeBack(int v) {
            withdrawn[v] = true;
            settle();
        }

        void remove(int a) {
            live &= ~(1 << a);
            settle();
        }

        boolean has(int a) {
            return a >= 0 && a < ENTRIES && holds(live, a);
        }

        int size() {
            return Integer.bitCount(live);
        }

        boolean isAbove(int a, int b) {
            return has(a) && has(b) && holds(below[a], b);
        }

        boolean inForce(int v) {
            return !withdrawn[v] && holds(live, upper[v]) && holds(live, lower[v]);
        }

        int verdictsInForce() {
            int found = 0;
            for (int v = 0; v < verdicts; v++) {
                found += inForce(v) ? 1 : 0;
            }
            return found;
        }

        int settledPairs() {
            int found = 0;
            for (int a = 0; a < ENTRIES; a++) {
                found += Integer.bitCount(below[a]);
            }
            return found;
        }

        /** Whether a may stand right behind the set, when the set takes the first ranks. */
        boolean mayCome(int a, int set) {
            return holds(live & ~set, a) && (above[a] & ~set) == 0;
        }

        boolean allows(int[] entries) {
            int set = 0;
            for (int i = 0; i < size(); i++) {
                int a = entries[i];
                if (a < 0 || a >= ENTRIES || !mayCome(a, set)) {
                    return false;
                }
                set |= 1 << a;
            }
            return true;
        }

        private void settle() {
            Arrays.fill(below, 0);
            Arrays.fill(above, 0);
            for (int v = 0; v < verdicts; v++) {
                if (inForce(v)) {
                    below[upper[v]] |= 1 << lower[v];
                }
            }
            leadOn();
            turn();
            tally.forget();
            rows.known = false;
        }

        /** With the way over each entry in turn, all ways are found (Warshall). */
        private void leadOn() {
            for (int over = 0; over < ENTRIES; over++) {
                for (int a = 0; a < ENTRIES; a++) {
                    if (holds(below[a], over)) {
                        below[a] |= below[over];
                    }
                }
            }
        }

        private void turn() {
            for (int a = 0; a < ENTRIES; a++) {
                for (int b = 0; b < ENTRIES; b++) {
                    if (holds(below[a], b)) {
                        above[b] |= 1 << a;
                    }
                }
            }
        }
    }

    /** Why the latest refused verdict was refused; kept as it was told, whatever comes later. */
    private static final class Reason {
        final int[] numbers = new int[ENTRIES];
        int length;
        /** Of each entry how few verdicts lead from it to the goal. */
        private final int[] steps = new int[ENTRIES];

        void trace(Heat heat, int from, int goal) {
            measure(heat, goal);
            length = 0;
            int at = from;
            for (int left = steps[from] - 1; left >= 0; left--) {
                int v = leastToward(heat, at, left);
                if (v == NONE) {
                    return;
                }
                numbers[length] = v + 1;
                length++;
                at = heat.lower[v];
            }
        }

        private void measure(Heat heat, int goal) {
            Arrays.fill(steps, ENTRIES);
            steps[goal] = 0;
            for (int far = 1; far < ENTRIES; far++) {
                for (int v = 0; v < heat.verdicts; v++) {
                    int a = heat.upper[v];
                    if (steps[heat.lower[v]] == far - 1 && steps[a] > far && heat.inForce(v)) {
                        steps[a] = far;
                    }
                }
            }
        }

        private int leastToward(Heat heat, int at, int left) {
            for (int v = 0; v < heat.verdicts; v++) {
                if (heat.upper[v] == at && steps[heat.lower[v]] == left && heat.inForce(v)) {
                    return v;
                }
            }
            return NONE;
        }
    }

    /**
     * All sets that can take the first ranks of a heat. Each set stands at its own number, so that
     * the orders need not be gone through one by one. Its rows have room for every set from the
     * start: rows that grew with the heats would be made again and again. Bits are looked at in
     * place here, as the loops over all sets run up to a million times a call.
     */
    private static final class Lattice {
        /** In how many ways a set's entries can take the first ranks; 0 when they can't. */
        private final long[] heads = new long[SETS];
        /** In how many ways the other entries can stand behind such a set. */
        private final long[] tails = new long[SETS];

        /** Of each half of a set: all entries below one of its entries, as these can't come yet. */
        private final int[] lowBars = new int[HALF];
        private final int[] highBars = new int[HALF];

        void load(Heat heat) {
            setBars(heat.below);
            countHeads(heat);
            countTails(heat);
        }

        long total(Heat heat) {
            return heads[heat.live];
        }

        int entryAt(Heat heat, long n, int r) {
            long left = n;
            int set = 0;
            int entry = NONE;
            for (int rank = 1; rank <= r; rank++) {
                entry = NONE;
                for (int a = 0; a < ENTRIES && entry == NONE; a++) {
                    long ways = heat.mayCome(a, set) ? tails[set | 1 << a] : 0;
                    if (left < ways) {
                        entry = a;
                        set |= 1 << a;
                    } else {
                        left -= ways;
                    }
                }
            }
            return entry;
        }

        /** The row must be one that the heat allows. */
        long numberOfRow(Heat heat, int[] row) {
            long number = 0;
            int set = 0;
            for (int i = 0; i < heat.size(); i++) {
                for (int a = 0; a < row[i]; a++) {
                    number += heat.mayCome(a, set) ? tails[set | 1 << a] : 0;
                }
                set |= 1 << row[i];
            }
            return number;
        }

        void fill(Heat heat) {
            heat.tally.clear();
            int sets = 1 << heat.size();
            int set = 0;
            for (int i = 0; i < sets; i++) {
                if (heads[set] != 0) {
                    fillBehind(heat, set);
                }
                set = setAfter(set, heat.live);
            }
            heat.tally.complete(heat);
        }

        private void fillBehind(Heat heat, int set) {
            int rank = Integer.bitCount(set);
            int rest = heat.live & ~set;
            int ready = readyOf(rest);
            for (int a = 0; a < ENTRIES; a++) {
                if ((ready >> a & 1) != 0) {
                    long ways = heads[set] * tails[set | 1 << a];
                    heat.tally.standing[a * ENTRIES + rank] += ways;
                    heat.tally.add(a, rest, ways);
                }
            }
        }

        private void setBars(int[] below) {
            for (int half = 1; half < HALF; half++) {
                int first = Integer.numberOfTrailingZeros(half);
                int others = half & half - 1;
                lowBars[half] = lowBars[others] | below[first];
                highBars[half] = highBars[others] | below[first + HALF_ENTRIES];
            }
        }

        /** Which of the entries that are still to come may come next. */
        private int readyOf(int rest) {
            return rest & ~(lowBars[rest & HALF - 1] | highBars[rest >> HALF_ENTRIES]);
        }

        private void countHeads(Heat heat) {
            clearHeads(heat);
            heads[0] = 1;
            int sets = 1 << heat.size();
            int set = 0;
            for (int i = 0; i < sets; i++) {
                if (heads[set] != 0) {
                    handOn(heat, set);
                }
                set = setAfter(set, heat.live);
            }
        }

        private void clearHeads(Heat heat) {
            int sets = 1 << heat.size();
            int set = 0;
            for (int i = 0; i < sets; i++) {
                heads[set] = 0;
                set = setAfter(set, heat.live);
            }
        }

        private void handOn(Heat heat, int set) {
            int ready = readyOf(heat.live & ~set);
            long ways = heads[set];
            for (int a = 0; a < ENTRIES; a++) {
                if ((ready >> a & 1) != 0) {
                    heads[set | 1 << a] += ways;
                }
            }
        }

        private void countTails(Heat heat) {
            tails[heat.live] = 1;
            int sets = 1 << heat.size();
            int set = heat.live;
            for (int i = 1; i < sets; i++) {
                set = set - 1 & heat.live;
                if (heads[set] != 0) {
                    tails[set] = gather(heat, set);
                }
            }
        }

        private long gather(Heat heat, int set) {
            int ready = readyOf(heat.live & ~set);
            long ways = 0;
            for (int a = 0; a < ENTRIES; a++) {
                if ((ready >> a & 1) != 0) {
                    ways += tails[set | 1 << a];
                }
            }
            return ways;
        }

        /** The borrow runs through the bits that are not live, so that only live sets come. */
        private static int setAfter(int set, int live) {
            return set - live & live;
        }
    }

    /** What is counted over all orders of a heat, kept until the heat changes. */
    private static final class Tally {
        boolean known;
        /** 0 as long as it is not counted: a heat always has an order. */
        long total;
        /** By entry and rank: in how many orders it stands there. */
        final long[] standing = new long[ENTRIES * ENTRIES];
        /** By entry and entry: in how many orders the first one is ahead. */
        final long[] ahead = new long[ENTRIES * ENTRIES];

        void forget() {
            known = false;
            total = 0;
        }

        void clear() {
            Arrays.fill(standing, 0);
            Arrays.fill(ahead, 0);
        }

        /** Only pairs with a greater second entry are added up: the others come from these. */
        void add(int a, int rest, long ways) {
            for (int b = a + 1; b < ENTRIES; b++) {
                if ((rest >> b & 1) != 0) {
                    ahead[a * ENTRIES + b] += ways;
                }
            }
        }

        void complete(Heat heat) {
            for (int a = 0; a < ENTRIES; a++) {
                for (int b = a + 1; b < ENTRIES; b++) {
                    if (heat.has(a) && heat.has(b)) {
                        ahead[b * ENTRIES + a] = total - ahead[a * ENTRIES + b];
                    }
                }
            }
            known = true;
        }

        long sumOfRanks(int a) {
            long sum = 0;
            for (int r = 1; r <= ENTRIES; r++) {
                sum += r * standing[a * ENTRIES + r - 1];
            }
            return sum;
        }

        int evenestPair(Heat heat) {
            int best = NONE;
            long least = 0;
            for (int a = 0; a < ENTRIES; a++) {
                for (int b = a + 1; b < ENTRIES; b++) {
                    int pair = a * ENTRIES + b;
                    long gap = Math.abs(ahead[pair] - ahead[b * ENTRIES + a]);
                    if (isOpen(heat, a, b) && (best == NONE || gap < least)) {
                        best = pair;
                        least = gap;
                    }
                }
            }
            return best;
        }

        private static boolean isOpen(Heat heat, int a, int b) {
            return heat.has(a) && heat.has(b) && !heat.isAbove(a, b) && !heat.isAbove(b, a);
        }
    }

    /** The fewest rows and the widest tie of a heat, kept until the heat changes. */
    private static final class Rows {
        boolean known;
        int width;
        final int[] follower = new int[ENTRIES];
        private int tieSet;
        /** A matching of upper entries with the lower ones that follow them, for one question. */
        private final int[] next = new int[ENTRIES];
        private final int[] previous = new int[ENTRIES];
        private final int[] reachedFrom = new int[ENTRIES];
        private final int[] queue = new int[ENTRIES];

        void arrange(Heat heat) {
            width = widthOf(heat, heat.live);
            chooseFollowers(heat);
            chooseTie(heat);
            known = true;
        }

        int tied(int i) {
            int left = i;
            for (int a = 0; a < ENTRIES; a++) {
                if (holds(tieSet, a)) {
                    if (left == 0) {
                        return a;
                    }
                    left--;
                }
            }
            return NONE;
        }

        private void chooseFollowers(Heat heat) {
            int uppers = heat.live;
            int lowers = heat.live;
            int pairs = heat.size() - width;
            for (int a = 0; a < ENTRIES; a++) {
                uppers &= ~(1 << a);
                follower[a] = leastFollower(heat, a, uppers, lowers, pairs);
                if (follower[a] != NONE) {
                    lowers &= ~(1 << follower[a]);
                    pairs--;
                }
            }
        }

        private int leastFollower(Heat heat, int a, int uppers, int lowers, int pairs) {
            for (int b = 0; b < ENTRIES; b++) {
                if (holds(heat.below[a] & lowers, b)
                        && mostPairs(heat, uppers, lowers & ~(1 << b)) == pairs - 1) {
                    return b;
                }
            }
            return NONE;
        }

        private void chooseTie(Heat heat) {
            tieSet = 0;
            int pool = heat.live;
            int wanted = width;
            for (int a = 0; a < ENTRIES; a++) {
                int others = pool & ~((2 << a) - 1) & ~heat.below[a] & ~heat.above[a];
                if (holds(pool, a) && widthOf(heat, others) == wanted - 1) {
                    tieSet |= 1 << a;
                    pool = others;
                    wanted--;
                }
            }
        }

        /** Each pair joins two rows, so the most pairs leave the fewest rows. */
        private int widthOf(Heat heat, int set) {
            return Integer.bitCount(set) - mostPairs(heat, set, set);
        }

        private int mostPairs(Heat heat, int uppers, int lowers) {
            Arrays.fill(next, NONE);
            Arrays.fill(previous, NONE);
            int pairs = 0;
            for (int a = 0; a < ENTRIES; a++) {
                if (holds(uppers, a) && pairUp(heat, a, lowers)) {
                    pairs++;
                }
            }
            return pairs;
        }

        /** Entries that are paired already may change their partners, to make room for one more. */
        private boolean pairUp(Heat heat, int start, int lowers) {
            int fresh = lowers;
            int waiting = 1;
            queue[0] = start;
            // No entry waits twice: the start has no partner, and each partner has one pair.
            for (int i = 0; i < waiting && i < ENTRIES; i++) {
                int a = queue[i];
                for (int b = 0; b < ENTRIES; b++) {
                    if (holds(heat.below[a] & fresh, b)) {
                        fresh &= ~(1 << b);
                        reachedFrom[b] = a;
                        if (previous[b] == NONE) {
                            changePartners(b);
                            return true;
                        }
                        queue[waiting] = previous[b];
                        waiting++;
                    }
                }
            }
            return false;
        }

        private void changePartners(int end) {
            int b = end;
            for (int i = 0; i < ENTRIES && b != NONE; i++) {
                int a = reachedFrom[b];
                int left = next[a];
                next[a] = b;
                previous[b] = a;
                b = left;
            }
        }
    }
}
