import java.util.ArrayList;
import java.util.Arrays;
import java.util.HashMap;
import java.util.List;
import java.util.Map;
import java.util.Random;

/**
 * Seeded runs beside a slow desk that takes the document at its word: for small heats it writes
 * down every order, every set and every way of rows. Large heats are held against a count of
 * another kind and against what must agree among the answers. A desk is asked more often here than
 * the document promises to answer, so that each change is held against all that is told.
 */
public final class SlowDeskTest {
    private static final int NONE = -1;
    private static int wrong = 0;
    private static String run = "";

    public static void main(String[] args) {
        for (int seed = 1; seed <= 400; seed++) {
            smallRun(seed);
        }
        for (int seed = 1; seed <= 12; seed++) {
            largeRun(seed);
        }
        System.out.println(wrong == 0 ? "the slow desk agrees" : wrong + " answers are not as due");
        if (wrong != 0) {
            System.exit(1);
        }
    }

    private static void due(String what, long got, long want) {
        if (got != want) {
            wrong++;
            System.out.println(run + ": " + what + " answered " + got + ", due is " + want);
        }
    }

    private static void due(String what, boolean got, boolean want) {
        due(what, got ? 1 : 0, want ? 1 : 0);
    }

    // ---- small heats

    private static void smallRun(int seed) {
        Random random = new Random(seed);
        run = "small run " + seed;
        JuryDesk desk = new JuryDesk();
        SlowHeat[] heats = new SlowHeat[3];
        SlowReason reason = new SlowReason();
        int[] row = new int[16];
        Arrays.fill(row, NONE);
        for (int call = 0; call < 60; call++) {
            int h = random.nextInt(3);
            change(random, desk, heats, reason, h);
            compareReason(desk, reason);
            int r = 1 + random.nextInt(6);
            int a = random.nextInt(8) - 1;
            due("give", desk.give(r, a), row[r - 1]);
            row[r - 1] = a;
            if (heats[h] != null && random.nextInt(3) == 0) {
                compare(desk, h, heats[h]);
                compareRow(random, desk, h, heats[h], row);
            }
        }
    }

    private static void change(Random random, JuryDesk desk, SlowHeat[] heats, SlowReason reason, int h) {
        int kind = random.nextInt(20);
        if (heats[h] == null || kind == 0) {
            int n = 1 + random.nextInt(6);
            heats[h] = new SlowHeat(n);
            desk.heat(h, n);
        } else if (kind == 1) {
            int a = random.nextInt(7);
            due("scratch " + a, desk.scratch(h, a), heats[h].scratch(a));
        } else if (kind < 6) {
            int v = random.nextInt(heats[h].verdicts.size() + 2);
            due("withdraw " + v, desk.withdraw(h, v), heats[h].withdraw(v));
        } else {
            int a = random.nextInt(heats[h].n + (kind == 6 ? 1 : 0));
            int b = random.nextInt(heats[h].n + (kind == 7 ? 1 : 0));
            due("better " + a + " " + b, desk.better(h, a, b), heats[h].better(a, b, reason));
        }
    }

    private static void compareReason(JuryDesk desk, SlowReason reason) {
        due("whyLast", desk.whyLast(), reason.path.size());
        for (int i = -1; i < 8; i++) {
            boolean there = i >= 0 && i < reason.path.size();
            due("why " + i, desk.why(i), there ? reason.path.get(i) : NONE);
        }
    }

    private static void compare(JuryDesk desk, int h, SlowHeat heat) {
        List<int[]> orders = heat.orders();
        due("orders", desk.orders(h), orders.size());
        due("entries", desk.count(h, 0), heat.live().size());
        due("verdicts", desk.count(h, 1), heat.verdicts.size());
        due("in force", desk.count(h, 2), heat.inForce().size());
        comparePairs(desk, h, heat, orders);
        compareRanks(desk, h, heat, orders);
        compareAsk(desk, h, heat, orders);
        compareTie(desk, h, heat.widestTie());
        compareFollowers(desk, h, heat);
    }

    private static void comparePairs(JuryDesk desk, int h, SlowHeat heat, List<int[]> orders) {
        int pairs = 0;
        for (int a = 0; a < 7; a++) {
            for (int b = 0; b < 7; b++) {
                String pair = " " + a + " " + b;
                boolean settled = heat.settled(a, b);
                pairs += settled ? 1 : 0;
                due("settled" + pair, desk.settled(h, a, b), settled);
                boolean between = false;
                for (int x = 0; x < 7; x++) {
                    between |= heat.settled(a, x) && heat.settled(x, b);
                }
                due("direct" + pair, desk.direct(h, a, b), settled && !between);
                due("before" + pair, desk.before(h, a, b), heat.before(orders, a, b));
            }
        }
        due("pairs", desk.count(h, 3), pairs);
    }

    private static void compareRanks(JuryDesk desk, int h, SlowHeat heat, List<int[]> orders) {
        for (int a = 0; a < 7; a++) {
            long sum = 0;
            for (int r = 0; r <= 8; r++) {
                int found = 0;
                for (int[] order : orders) {
                    found += r >= 1 && r <= order.length && order[r - 1] == a ? 1 : 0;
                }
                sum += (long) r * found;
                due("atRank " + a + " " + r, desk.atRank(h, a, r), found);
            }
            boolean there = heat.live().contains(a);
            long divisor = there ? slowDivisor(sum, orders.size()) : 1;
            due("meanRank " + a, desk.meanRank(h, a, true), there ? sum / divisor : 0);
            due("meanRank den " + a, desk.meanRank(h, a, false), there ? orders.size() / divisor : 0);
        }
        for (int n = -1; n <= orders.size(); n++) {
            for (int r = 0; r <= 7; r++) {
                boolean there = n >= 0 && n < orders.size() && r >= 1 && r <= orders.get(n).length;
                due("order " + n + " " + r, desk.order(h, n, r), there ? orders.get(n)[r - 1] : NONE);
            }
        }
    }

    private static long slowDivisor(long a, long b) {
        long best = 1;
        for (long d = 1; d <= b; d++) {
            best = a % d == 0 && b % d == 0 ? d : best;
        }
        return best;
    }

    private static void compareAsk(JuryDesk desk, int h, SlowHeat heat, List<int[]> orders) {
        int low = NONE;
        int high = NONE;
        int least = Integer.MAX_VALUE;
        for (int a : heat.live()) {
            for (int b : heat.live()) {
                int gap = Math.abs(heat.before(orders, a, b) - heat.before(orders, b, a));
                if (a < b && !heat.settled(a, b) && !heat.settled(b, a) && gap < least) {
                    low = a;
                    high = b;
                    least = gap;
                }
            }
        }
        due("ask 0", desk.ask(h, 0), low);
        due("ask 1", desk.ask(h, 1), high);
    }

    private static void compareTie(JuryDesk desk, int h, List<Integer> tie) {
        due("tie", desk.tie(h), tie.size());
        for (int i = -1; i < 8; i++) {
            due("tieEntry " + i, desk.tieEntry(h, i), i >= 0 && i < tie.size() ? tie.get(i) : NONE);
        }
    }

    private static void compareFollowers(JuryDesk desk, int h, SlowHeat heat) {
        int[] followers = heat.fewestRows();
        int rows = heat.live().size();
        for (int a = 0; a < 7; a++) {
            rows -= followers[a] == NONE ? 0 : 1;
            due("follows " + a, desk.follows(h, a), followers[a]);
        }
        due("chains", desk.chains(h), rows);
    }

    private static void compareRow(Random random, JuryDesk desk, int h, SlowHeat heat, int[] row) {
        List<int[]> orders = heat.orders();
        due("numberOf", desk.numberOf(h), numberOf(orders, row));
        int[] order = orders.get(random.nextInt(orders.size()));
        for (int i = 0; i < order.length; i++) {
            due("give", desk.give(i + 1, order[i]), row[i]);
            row[i] = order[i];
        }
        due("numberOf an order", desk.numberOf(h), numberOf(orders, row));
    }

    private static int numberOf(List<int[]> orders, int[] row) {
        for (int n = 0; n < orders.size(); n++) {
            int[] order = orders.get(n);
            if (Arrays.equals(order, Arrays.copyOf(row, order.length))) {
                return n;
            }
        }
        return NONE;
    }

    private static final class SlowReason {
        List<Integer> path = new ArrayList<>();
    }

    private static final class SlowHeat {
        final int n;
        final List<int[]> verdicts = new ArrayList<>();
        final List<Boolean> withdrawn = new ArrayList<>();
        final boolean[] scratched = new boolean[16];

        SlowHeat(int n) {
            this.n = n;
        }

        List<Integer> live() {
            List<Integer> found = new ArrayList<>();
            for (int a = 0; a < n; a++) {
                if (!scratched[a]) {
                    found.add(a);
                }
            }
            return found;
        }

        List<Integer> inForce() {
            List<Integer> found = new ArrayList<>();
            for (int v = 1; v <= verdicts.size(); v++) {
                int[] pair = verdicts.get(v - 1);
                if (!withdrawn.get(v - 1) && !scratched[pair[0]] && !scratched[pair[1]]) {
                    found.add(v);
                }
            }
            return found;
        }

        boolean settled(int a, int b) {
            for (int v : inForce()) {
                int[] pair = verdicts.get(v - 1);
                if (pair[0] == a && (pair[1] == b || settled(pair[1], b))) {
                    return true;
                }
            }
            return false;
        }

        int better(int a, int b, SlowReason reason) {
            if (!live().contains(a) || !live().contains(b)) {
                return NONE;
            }
            if (a == b || settled(b, a)) {
                reason.path = leastWay(b, a);
                return 0;
            }
            if (verdicts.size() == 400) {
                return -2;
            }
            verdicts.add(new int[] {a, b});
            withdrawn.add(false);
            return verdicts.size();
        }

        private List<Integer> leastWay(int from, int to) {
            for (int length = 0; length < 16; length++) {
                List<Integer> way = new ArrayList<>();
                if (findWay(from, to, length, way)) {
                    return way;
                }
            }
            throw new IllegalStateException("no way");
        }

        /** Going through the numbers as they rise, the first way found is the least. */
        private boolean findWay(int from, int to, int length, List<Integer> way) {
            if (length == 0) {
                return from == to;
            }
            for (int v : inForce()) {
                if (verdicts.get(v - 1)[0] == from) {
                    way.add(v);
                    if (findWay(verdicts.get(v - 1)[1], to, length - 1, way)) {
                        return true;
                    }
                    way.remove(way.size() - 1);
                }
            }
            return false;
        }

        boolean withdraw(int v) {
            if (v < 1 || v > verdicts.size() || withdrawn.get(v - 1)) {
                return false;
            }
            withdrawn.set(v - 1, true);
            return true;
        }

        boolean scratch(int a) {
            if (!live().contains(a) || live().size() == 1) {
                return false;
            }
            scratched[a] = true;
            return true;
        }

        List<int[]> orders() {
            List<int[]> found = new ArrayList<>();
            write(new ArrayList<>(), found);
            return found;
        }

        private void write(List<Integer> start, List<int[]> found) {
            if (start.size() == live().size()) {
                int[] order = start.stream().mapToInt(Integer::intValue).toArray();
                if (keepsVerdicts(order)) {
                    found.add(order);
                }
                return;
            }
            for (int a : live()) {
                if (!start.contains(a)) {
                    start.add(a);
                    write(start, found);
                    start.remove(start.size() - 1);
                }
            }
        }

        private boolean keepsVerdicts(int[] order) {
            int[] place = new int[16];
            for (int i = 0; i < order.length; i++) {
                place[order[i]] = i;
            }
            for (int v : inForce()) {
                if (place[verdicts.get(v - 1)[0]] > place[verdicts.get(v - 1)[1]]) {
                    return false;
                }
            }
            return true;
        }

        int before(List<int[]> orders, int a, int b) {
            int found = 0;
            for (int[] order : orders) {
                int placeA = indexIn(order, a);
                int placeB = indexIn(order, b);
                found += placeA != NONE && placeB != NONE && placeA < placeB ? 1 : 0;
            }
            return found;
        }

        private static int indexIn(int[] order, int a) {
            for (int i = 0; i < order.length; i++) {
                if (order[i] == a) {
                    return i;
                }
            }
            return NONE;
        }

        List<Integer> widestTie() {
            List<Integer> best = new ArrayList<>();
            for (int set = 0; set < 1 << n; set++) {
                List<Integer> tie = new ArrayList<>();
                for (int a : live()) {
                    if ((set >> a & 1) != 0) {
                        tie.add(a);
                    }
                }
                if (isTie(tie) && isMore(tie, best)) {
                    best = tie;
                }
            }
            return best;
        }

        private boolean isTie(List<Integer> entries) {
            for (int a : entries) {
                for (int b : entries) {
                    if (settled(a, b)) {
                        return false;
                    }
                }
            }
            return true;
        }

        private static boolean isMore(List<Integer> tie, List<Integer> best) {
            if (tie.size() != best.size()) {
                return tie.size() > best.size();
            }
            for (int i = 0; i < tie.size(); i++) {
                if (!tie.get(i).equals(best.get(i))) {
                    return tie.get(i) < best.get(i);
                }
            }
            return false;
        }

        int[] fewestRows() {
            int[] best = new int[16];
            Arrays.fill(best, NONE);
            int[] way = best.clone();
            return follow(0, way, best.clone(), new int[] {-1});
        }

        /** Ways come by rising followers, nothing last, so that the first of so few rows stays. */
        private int[] follow(int a, int[] way, int[] best, int[] mostPairs) {
            if (a == n) {
                int pairs = 0;
                for (int follower : way) {
                    pairs += follower == NONE ? 0 : 1;
                }
                if (pairs > mostPairs[0]) {
                    mostPairs[0] = pairs;
                    System.arraycopy(way, 0, best, 0, 16);
                }
                return best;
            }
            for (int b = 0; b < n; b++) {
                if (settled(a, b) && indexIn(way, b) == NONE) {
                    way[a] = b;
                    follow(a + 1, way, best, mostPairs);
                    way[a] = NONE;
                }
            }
            return follow(a + 1, way, best, mostPairs);
        }
    }

    // ---- large heats

    private static void largeRun(int seed) {
        Random random = new Random(1000 + seed);
        run = "large run " + seed;
        JuryDesk desk = new JuryDesk();
        int h = random.nextInt(12);
        int n = 11 + random.nextInt(6);
        desk.heat(h, n);
        int[] hidden = shuffled(random, n);
        int wanted = random.nextInt(30);
        for (int v = 0; v < wanted; v++) {
            int x = random.nextInt(n);
            int y = random.nextInt(n);
            if (x != y) {
                desk.better(h, hidden[Math.min(x, y)], hidden[Math.max(x, y)]);
            }
        }
        for (int i = 0; i < seed % 4; i++) {
            desk.scratch(h, random.nextInt(n));
        }
        boolean[][] above = new boolean[n][n];
        int live = readHeat(desk, h, n, above);
        long total = desk.orders(h);
        due("orders", total, countOrders(above, live, new HashMap<>()));
        agreeingCounts(desk, h, n, above, live, total);
        ordersAndNumbers(random, desk, h, n, live, total);
        rowsAndTie(desk, h, n, above, live);
    }

    private static int[] shuffled(Random random, int n) {
        int[] row = new int[n];
        for (int i = 0; i < n; i++) {
            int j = random.nextInt(i + 1);
            row[i] = row[j];
            row[j] = i;
        }
        return row;
    }

    private static int readHeat(JuryDesk desk, int h, int n, boolean[][] above) {
        int live = 0;
        for (int a = 0; a < n; a++) {
            live |= desk.meanRank(h, a, true) > 0 ? 1 << a : 0;
            for (int b = 0; b < n; b++) {
                above[a][b] = desk.settled(h, a, b);
            }
        }
        return live;
    }

    /** Counts from the last rank upward: the desk counts from the first. */
    private static long countOrders(boolean[][] above, int set, Map<Integer, Long> known) {
        if (set == 0) {
            return 1;
        }
        Long old = known.get(set);
        if (old != null) {
            return old;
        }
        long ways = 0;
        for (int last = 0; last < above.length; last++) {
            boolean canBeLast = (set >> last & 1) != 0;
            for (int b = 0; b < above.length && canBeLast; b++) {
                canBeLast = (set >> b & 1) == 0 || !above[last][b];
            }
            ways += canBeLast ? countOrders(above, set & ~(1 << last), known) : 0;
        }
        known.put(set, ways);
        return ways;
    }

    private static void agreeingCounts(JuryDesk desk, int h, int n, boolean[][] above, int live, long total) {
        for (int a = 0; a < n; a++) {
            if ((live >> a & 1) == 0) {
                continue;
            }
            long sum = 0;
            long sumOfRanks = 0;
            long ahead = total;
            for (int i = 0; i < 16; i++) {
                sum += desk.atRank(h, a, i + 1);
                sumOfRanks += (i + 1) * desk.atRank(h, a, i + 1);
                ahead += desk.before(h, i, a);
            }
            due("ranks of " + a, sum, total);
            due("ranks and entries ahead of " + a, ahead, sumOfRanks);
            due("meanRank " + a, desk.meanRank(h, a, true), desk.chance(sumOfRanks, total, true));
            comparePairsBySettling(desk, h, a, above, live);
        }
    }

    /** Orders with a ahead are the orders that are left when a is settled above, too. */
    private static void comparePairsBySettling(JuryDesk desk, int h, int a, boolean[][] above, int live) {
        int b = (a * 5 + 3) % above.length;
        if (b == a || (live >> b & 1) == 0 || above[a][b] || above[b][a]) {
            return;
        }
        long told = desk.before(h, a, b);
        int v = desk.better(h, a, b);
        due("orders with " + a + " above " + b, desk.orders(h), told);
        desk.withdraw(h, v);
    }

    private static void ordersAndNumbers(Random random, JuryDesk desk, int h, int n, int live, long total) {
        int size = Integer.bitCount(live);
        long[] numbers = {0, total - 1, (long) (random.nextDouble() * total), total / 2};
        for (long number : numbers) {
            int seen = 0;
            for (int r = 1; r <= size; r++) {
                int a = desk.order(h, number, r);
                seen |= 1 << a;
                desk.give(r, a);
            }
            due("entries of order " + number, seen, live);
            due("number of order " + number, desk.numberOf(h), number);
        }
        due("behind the last order", desk.order(h, total, 1), NONE);
        due("behind the last rank", desk.order(h, 0, size + 1), NONE);
    }

    private static void rowsAndTie(JuryDesk desk, int h, int n, boolean[][] above, int live) {
        int width = desk.tie(h);
        due("rows are as many as the tie is wide", desk.chains(h), width);
        int rows = Integer.bitCount(live);
        int followed = 0;
        for (int a = 0; a < n; a++) {
            int b = desk.follows(h, a);
            if (b != NONE) {
                rows--;
                due("follows " + a + " is settled", above[a][b], true);
                due("follows " + a + " is no other's", (followed >> b & 1) == 0, true);
                followed |= 1 << b;
            }
        }
        due("rows", rows, width);
        due("least tie", tieOf(desk, h, width), leastTie(above, live, width));
    }

    private static int tieOf(JuryDesk desk, int h, int width) {
        int set = 0;
        for (int i = 0; i < width; i++) {
            set |= 1 << desk.tieEntry(h, i);
        }
        return set;
    }

    /** Of sets of one size the lexically least has its lowest differing bit set. */
    private static int leastTie(boolean[][] above, int live, int width) {
        int best = 0;
        for (int set = 1; set < 1 << above.length; set++) {
            int size = Integer.bitCount(set);
            if ((set & ~live) != 0 || size < width || !isTie(above, set)) {
                continue;
            }
            due("no wider tie", size, width);
            int differ = set ^ best;
            if (best == 0 || (set & differ & -differ) != 0) {
                best = set;
            }
        }
        return best;
    }

    private static boolean isTie(boolean[][] above, int set) {
        for (int a = 0; a < above.length; a++) {
            for (int b = 0; b < above.length; b++) {
                if ((set >> a & 1) != 0 && (set >> b & 1) != 0 && above[a][b]) {
                    return false;
                }
            }
        }
        return true;
    }
}
