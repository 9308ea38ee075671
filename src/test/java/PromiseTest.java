/** One method for each promise of the document: ordinary inputs, named edges, wrong inputs. */
public final class PromiseTest {
    private static final int[] NO_INDEX = {-1, 16, 31, 32, 64, Integer.MIN_VALUE, Integer.MAX_VALUE};
    private static final int[] NO_HEAT = {-1, 12, 32, Integer.MIN_VALUE, Integer.MAX_VALUE, 5};

    private static int wrong = 0;

    public static void main(String[] args) {
        newObject();
        heat();
        better();
        betterWhenFull();
        whyLast();
        why();
        whyIsKept();
        withdraw();
        scratch();
        settled();
        direct();
        orders();
        atRank();
        before();
        meanRank();
        chance();
        order();
        give();
        numberOf();
        ask();
        tie();
        tieEntry();
        chains();
        follows();
        count();
        heatsAreApart();
        onlyChangesChange();
        System.out.println(wrong == 0 ? "all promises hold" : wrong + " answers are not as due");
        if (wrong != 0) {
            System.exit(1);
        }
    }

    private static void due(String what, long got, long want) {
        if (got != want) {
            wrong++;
            System.out.println(what + " answered " + got + ", due is " + want);
        }
    }

    private static void due(String what, boolean got, boolean want) {
        due(what, got ? 1 : 0, want ? 1 : 0);
    }

    /** The word N: 0 and 1 above 2, 1 above 3; its orders are 0123, 0132, 1023, 1032, 1302. */
    private static JuryDesk letterN() {
        JuryDesk desk = new JuryDesk();
        desk.heat(0, 4);
        desk.better(0, 0, 2);
        desk.better(0, 1, 2);
        desk.better(0, 1, 3);
        return desk;
    }

    /** Entries 0 .. n-1, each settled above the next one. */
    private static JuryDesk ladder(int n) {
        JuryDesk desk = new JuryDesk();
        desk.heat(0, n);
        for (int a = 0; a + 1 < n; a++) {
            desk.better(0, a, a + 1);
        }
        return desk;
    }

    private static JuryDesk open(int n) {
        JuryDesk desk = new JuryDesk();
        desk.heat(0, n);
        return desk;
    }

    private static boolean refusesHeat(JuryDesk desk, int h, int n) {
        try {
            desk.heat(h, n);
            return false;
        } catch (IllegalArgumentException e) {
            return true;
        }
    }

    private static boolean refusesGive(JuryDesk desk, int r, int a) {
        try {
            desk.give(r, a);
            return false;
        } catch (IllegalArgumentException e) {
            return true;
        }
    }

    private static boolean refusesChance(long num, long den) {
        try {
            new JuryDesk().chance(num, den, true);
            return false;
        } catch (IllegalArgumentException e) {
            return true;
        }
    }

    private static void newObject() {
        JuryDesk desk = new JuryDesk();
        for (int h = 0; h < 12; h++) {
            answersForNoHeat("new object", desk, h);
        }
        for (int h : NO_HEAT) {
            answersForNoHeat("new object", desk, h);
        }
        due("1 whyLast", desk.whyLast(), 0);
        due("1 why(0)", desk.why(0), -1);
        due("1 the row is empty", desk.give(1, JuryDesk.NONE), -1);
        due("1 NONE", JuryDesk.NONE, -1);
    }

    private static void answersForNoHeat(String when, JuryDesk desk, int h) {
        String at = when + ", heat " + h + ": ";
        due(at + "better", desk.better(h, 0, 1), -1);
        due(at + "better same", desk.better(h, 0, 0), -1);
        due(at + "withdraw", desk.withdraw(h, 1), false);
        due(at + "scratch", desk.scratch(h, 0), false);
        due(at + "settled", desk.settled(h, 0, 1), false);
        due(at + "direct", desk.direct(h, 0, 1), false);
        due(at + "orders", desk.orders(h), 0);
        due(at + "atRank", desk.atRank(h, 0, 1), 0);
        due(at + "before", desk.before(h, 0, 1), 0);
        due(at + "meanRank", desk.meanRank(h, 0, true), 0);
        due(at + "meanRank", desk.meanRank(h, 0, false), 0);
        due(at + "order", desk.order(h, 0, 1), -1);
        due(at + "numberOf", desk.numberOf(h), -1);
        due(at + "ask 0", desk.ask(h, 0), -1);
        due(at + "ask 1", desk.ask(h, 1), -1);
        due(at + "tie", desk.tie(h), 0);
        due(at + "tieEntry", desk.tieEntry(h, 0), -1);
        due(at + "chains", desk.chains(h), 0);
        due(at + "follows", desk.follows(h, 0), -1);
        for (int what = 0; what < 4; what++) {
            due(at + "count " + what, desk.count(h, what), 0);
        }
        due(at + "count 4", desk.count(h, 4), -1);
        due(at + "count -1", desk.count(h, -1), -1);
    }

    private static void heat() {
        JuryDesk desk = new JuryDesk();
        due("2 least", refusesHeat(desk, 0, 1), false);
        due("2 most", refusesHeat(desk, 11, 16), false);
        due("2 entries", desk.count(0, 0), 1);
        due("2 entries", desk.count(11, 0), 16);
        for (int n : new int[] {0, -1, 17, 32, Integer.MIN_VALUE, Integer.MAX_VALUE}) {
            due("2 n " + n, refusesHeat(desk, 0, n), true);
        }
        for (int h : new int[] {-1, 12, Integer.MIN_VALUE, Integer.MAX_VALUE}) {
            due("2 h " + h, refusesHeat(desk, h, 3), true);
        }
        due("2 refused changes nothing", desk.count(0, 0), 1);
        JuryDesk again = letterN();
        again.scratch(0, 3);
        due("2 refused", refusesHeat(again, 0, 17), true);
        due("2 refused keeps verdicts", again.count(0, 1), 3);
        again.heat(0, 3);
        due("2 anew without verdicts", again.count(0, 1), 0);
        due("2 anew, none settled", again.count(0, 3), 0);
        due("2 anew, orders", again.orders(0), 6);
        due("2 anew, numbers from 1", again.better(0, 2, 0), 1);
        again.withdraw(0, 1);
        again.heat(0, 4);
        due("2 anew, nobody scratched", again.count(0, 0), 4);
        due("2 anew, the first verdict", again.better(0, 3, 0), 1);
        due("2 anew, in force again", again.settled(0, 3, 0), true);
    }

    private static void better() {
        JuryDesk desk = open(4);
        due("3 first", desk.better(0, 0, 1), 1);
        due("3 the same again", desk.better(0, 0, 1), 2);
        due("3 on", desk.better(0, 1, 2), 3);
        due("3 settled already", desk.better(0, 0, 2), 4);
        due("3 against one verdict", desk.better(0, 1, 0), 0);
        due("3 against three", desk.better(0, 2, 0), 0);
        due("3 itself", desk.better(0, 3, 3), 0);
        due("3 refused ones have no number", desk.better(0, 3, 0), 5);
        for (int a : NO_INDEX) {
            due("3 a " + a, desk.better(0, a, 0), -1);
            due("3 b " + a, desk.better(0, 0, a), -1);
            due("3 both " + a, desk.better(0, a, a), -1);
        }
        due("3 a not there", desk.better(0, 4, 0), -1);
        due("3 b not there", desk.better(0, 0, 4), -1);
        desk.scratch(0, 1);
        due("3 a scratched", desk.better(0, 1, 0), -1);
        due("3 b scratched", desk.better(0, 0, 1), -1);
        due("3 both scratched", desk.better(0, 1, 1), -1);
        desk.withdraw(0, 4);
        due("3 free again", desk.better(0, 2, 0), 6);
    }

    private static void betterWhenFull() {
        JuryDesk desk = open(3);
        for (int v = 1; v <= 400; v++) {
            due("3 number", desk.better(0, 0, 1), v);
        }
        due("3 full", desk.better(0, 0, 2), -2);
        due("3 full, not there first", desk.better(0, 0, 3), -1);
        due("3 full, itself first", desk.better(0, 2, 2), 0);
        due("3 full, settled first", desk.better(0, 1, 0), 0);
        due("3 full, the reason", desk.why(0), 1);
        due("3 withdrawn counts too", desk.withdraw(0, 400), true);
        due("3 still full", desk.better(0, 0, 2), -2);
        due("3 refused changes nothing", desk.settled(0, 0, 2), false);
        due("3 count since", desk.count(0, 1), 400);
        due("3 count in force", desk.count(0, 2), 399);
        desk.heat(0, 3);
        due("3 room anew", desk.better(0, 0, 2), 1);
    }

    private static void whyLast() {
        JuryDesk desk = ladder(16);
        due("4 before any", desk.whyLast(), 0);
        due("4 refused", desk.better(0, 15, 0), 0);
        due("4 longest", desk.whyLast(), 15);
        desk.better(0, 2, 6);
        due("4 shortened later is not asked", desk.whyLast(), 15);
        desk.better(0, 15, 0);
        due("4 as few as can be", desk.whyLast(), 12);
        desk.better(0, 4, 3);
        due("4 one", desk.whyLast(), 1);
        desk.better(0, 4, 99);
        due("4 NONE is not 0", desk.whyLast(), 1);
        desk.better(0, 7, 7);
        due("4 the same", desk.whyLast(), 0);
    }

    private static void why() {
        JuryDesk desk = open(5);
        desk.better(0, 0, 1);
        desk.better(0, 1, 2);
        desk.better(0, 2, 4);
        desk.better(0, 0, 3);
        desk.better(0, 3, 4);
        desk.better(0, 0, 3);
        due("5 refused", desk.better(0, 4, 0), 0);
        due("5 few before least", desk.whyLast(), 2);
        due("5 first", desk.why(0), 4);
        due("5 second", desk.why(1), 5);
        due("5 no third", desk.why(2), -1);
        desk.better(0, 1, 4);
        desk.better(0, 4, 0);
        due("5 the least first", desk.why(0), 1);
        due("5 and its second", desk.why(1), 7);
        desk.withdraw(0, 4);
        desk.withdraw(0, 1);
        desk.better(0, 4, 0);
        due("5 only what is in force", desk.why(0), 6);
        due("5 falling numbers", desk.why(1), 5);
        for (int i : NO_INDEX) {
            due("5 i " + i, desk.why(i), -1);
        }
        desk.better(0, 0, 0);
        due("5 the same", desk.why(0), -1);
    }

    private static void whyIsKept() {
        JuryDesk desk = ladder(3);
        desk.better(0, 2, 0);
        desk.withdraw(0, 1);
        desk.scratch(0, 1);
        due("5 kept, withdrawn", desk.why(0), 1);
        desk.heat(0, 2);
        due("5 kept, anew", desk.whyLast(), 2);
        due("5 kept, anew", desk.why(1), 2);
        desk.heat(7, 3);
        due("5 kept, other heat", desk.better(7, 0, 1), 1);
        due("5 kept, other heat", desk.why(1), 2);
        desk.better(7, 1, 0);
        due("5 of whatever heat", desk.whyLast(), 1);
    }

    private static void withdraw() {
        JuryDesk desk = ladder(4);
        due("6 none such", desk.withdraw(0, 0), false);
        due("6 none such", desk.withdraw(0, 4), false);
        due("6 none such", desk.withdraw(0, 400), false);
        due("6 none such", desk.withdraw(0, 401), false);
        for (int v : new int[] {-1, Integer.MIN_VALUE, Integer.MAX_VALUE}) {
            due("6 v " + v, desk.withdraw(0, v), false);
        }
        due("6 in force", desk.withdraw(0, 2), true);
        due("6 twice", desk.withdraw(0, 2), false);
        due("6 gone", desk.settled(0, 1, 2), false);
        due("6 ways over it gone", desk.settled(0, 0, 3), false);
        due("6 others stay", desk.settled(0, 0, 1), true);
        due("6 orders", desk.orders(0), 6);
        desk.scratch(0, 0);
        due("6 of scratched entries, too", desk.withdraw(0, 1), true);
        due("6 but once", desk.withdraw(0, 1), false);
        JuryDesk twice = open(2);
        twice.better(0, 0, 1);
        twice.better(0, 0, 1);
        twice.withdraw(0, 1);
        due("6 the other one stays", twice.settled(0, 0, 1), true);
        twice.withdraw(0, 2);
        due("6 none stays", twice.settled(0, 0, 1), false);
    }

    private static void scratch() {
        JuryDesk desk = ladder(3);
        for (int a : NO_INDEX) {
            due("7 a " + a, desk.scratch(0, a), false);
        }
        due("7 not there", desk.scratch(0, 3), false);
        due("7 middle", desk.scratch(0, 1), true);
        due("7 twice", desk.scratch(0, 1), false);
        due("7 ways over it gone", desk.settled(0, 0, 2), false);
        due("7 verdicts no more in force", desk.count(0, 2), 0);
        due("7 numbers stay", desk.count(0, 1), 2);
        due("7 orders", desk.orders(0), 2);
        due("7 first", desk.scratch(0, 0), true);
        due("7 the last one stays", desk.scratch(0, 2), false);
        due("7 order of one", desk.order(0, 0, 1), 2);
        due("7 mean rank", desk.meanRank(0, 2, true), 1);
    }

    private static void settled() {
        JuryDesk desk = letterN();
        due("8 verdict", desk.settled(0, 0, 2), true);
        due("8 other way", desk.settled(0, 2, 0), false);
        due("8 none", desk.settled(0, 0, 3), false);
        due("8 itself", desk.settled(0, 0, 0), false);
        desk.better(0, 2, 3);
        due("8 over another", desk.settled(0, 0, 3), true);
        for (int a : NO_INDEX) {
            due("8 a " + a, desk.settled(0, a, 2), false);
            due("8 b " + a, desk.settled(0, 0, a), false);
        }
        desk.scratch(0, 0);
        due("8 scratched", desk.settled(0, 0, 2), false);
        due("8 long way", ladder(16).settled(0, 0, 15), true);
        due("8 long way back", ladder(16).settled(0, 15, 0), false);
    }

    private static void direct() {
        JuryDesk desk = ladder(4);
        desk.better(0, 0, 2);
        due("9 next", desk.direct(0, 0, 1), true);
        due("9 a verdict, but one between", desk.direct(0, 0, 2), false);
        due("9 two between", desk.direct(0, 0, 3), false);
        due("9 other way", desk.direct(0, 1, 0), false);
        due("9 itself", desk.direct(0, 1, 1), false);
        for (int a : NO_INDEX) {
            due("9 a " + a, desk.direct(0, a, 2), false);
            due("9 b " + a, desk.direct(0, 0, a), false);
        }
        desk.scratch(0, 1);
        due("9 nothing between now", desk.direct(0, 0, 2), true);
        due("9 scratched", desk.direct(0, 0, 1), false);
    }

    private static void orders() {
        long factorial = 1;
        for (int n = 1; n <= 16; n++) {
            factorial *= n;
            due("10 open " + n, open(n).orders(0), factorial);
            due("10 ladder " + n, ladder(n).orders(0), 1);
        }
        JuryDesk desk = letterN();
        due("10 N", desk.orders(0), 5);
        desk.scratch(0, 2);
        due("10 scratched", desk.orders(0), 3);
        desk.withdraw(0, 3);
        due("10 withdrawn", desk.orders(0), 6);
        JuryDesk star = open(16);
        for (int a = 1; a < 16; a++) {
            star.better(0, 0, a);
        }
        due("10 star", star.orders(0), 1307674368000L);
        star.scratch(0, 0);
        due("10 star without its top", star.orders(0), 1307674368000L);
    }

    private static void atRank() {
        JuryDesk desk = letterN();
        long[] want = {2, 2, 1, 0, 3, 2, 0, 0, 0, 0, 2, 3, 0, 1, 2, 2};
        for (int a = 0; a < 4; a++) {
            for (int r = 1; r <= 4; r++) {
                due("11 N " + a + " at " + r, desk.atRank(0, a, r), want[a * 4 + r - 1]);
            }
        }
        due("11 rank 0", desk.atRank(0, 0, 0), 0);
        due("11 rank 5", desk.atRank(0, 0, 5), 0);
        for (int i : new int[] {-1, 17, 32, Integer.MIN_VALUE, Integer.MAX_VALUE}) {
            due("11 r " + i, desk.atRank(0, 0, i), 0);
        }
        for (int a : NO_INDEX) {
            due("11 a " + a, desk.atRank(0, a, 1), 0);
        }
        due("11 not there", desk.atRank(0, 4, 1), 0);
        desk.scratch(0, 1);
        due("11 scratched", desk.atRank(0, 1, 1), 0);
        due("11 the others", desk.atRank(0, 3, 2), 1);
        due("11 sixteen", open(16).atRank(0, 7, 16), 1307674368000L);
    }

    private static void before() {
        JuryDesk desk = letterN();
        long[] want = {0, 2, 5, 4, 3, 0, 5, 5, 0, 0, 0, 2, 1, 0, 3, 0};
        for (int a = 0; a < 4; a++) {
            for (int b = 0; b < 4; b++) {
                due("12 N " + a + " ahead of " + b, desk.before(0, a, b), want[a * 4 + b]);
            }
        }
        for (int a : NO_INDEX) {
            due("12 a " + a, desk.before(0, a, 1), 0);
            due("12 b " + a, desk.before(0, 1, a), 0);
        }
        due("12 not there", desk.before(0, 0, 4), 0);
        desk.scratch(0, 2);
        due("12 scratched b", desk.before(0, 0, 2), 0);
        due("12 scratched a", desk.before(0, 2, 0), 0);
        due("12 the others", desk.before(0, 0, 3), 2);
        due("12 sixteen", open(16).before(0, 15, 0), 10461394944000L);
    }

    private static void meanRank() {
        JuryDesk desk = letterN();
        due("13 numerator", desk.meanRank(0, 0, true), 9);
        due("13 denominator", desk.meanRank(0, 0, false), 5);
        due("13 numerator", desk.meanRank(0, 1, true), 7);
        due("13 denominator", desk.meanRank(0, 3, false), 5);
        due("13 whole", ladder(16).meanRank(0, 12, true), 13);
        due("13 whole", ladder(16).meanRank(0, 12, false), 1);
        due("13 lowest terms", open(16).meanRank(0, 3, true), 17);
        due("13 lowest terms", open(16).meanRank(0, 3, false), 2);
        for (int a : NO_INDEX) {
            due("13 a " + a, desk.meanRank(0, a, true), 0);
            due("13 a " + a, desk.meanRank(0, a, false), 0);
        }
        desk.scratch(0, 3);
        due("13 scratched", desk.meanRank(0, 3, true), 0);
        due("13 scratched", desk.meanRank(0, 3, false), 0);
        due("13 the others", desk.meanRank(0, 0, true), 3);
        due("13 the others", desk.meanRank(0, 0, false), 2);
    }

    private static void chance() {
        JuryDesk desk = new JuryDesk();
        due("14 numerator", desk.chance(84, 36, true), 7);
        due("14 denominator", desk.chance(84, 36, false), 3);
        due("14 lowest already", desk.chance(7, 3, true), 7);
        due("14 zero", desk.chance(0, 9, true), 0);
        due("14 zero over one", desk.chance(0, 9, false), 1);
        due("14 zero over most", desk.chance(0, Long.MAX_VALUE, false), 1);
        due("14 one", desk.chance(Long.MAX_VALUE, Long.MAX_VALUE, true), 1);
        due("14 one", desk.chance(Long.MAX_VALUE, Long.MAX_VALUE, false), 1);
        due("14 most", desk.chance(Long.MAX_VALUE, 1, true), Long.MAX_VALUE);
        due("14 most", desk.chance(Long.MAX_VALUE, 7, true), Long.MAX_VALUE / 7);
        // Neighbours among Fibonacci's numbers take the most divisions of all.
        long fib = 4660046610375530309L;
        long next = 7540113804746346429L;
        due("14 many divisions", desk.chance(fib, next, true), fib);
        due("14 many divisions", desk.chance(next, fib, false), fib);
        due("14 num -1", refusesChance(-1, 2), true);
        due("14 num least", refusesChance(Long.MIN_VALUE, 2), true);
        due("14 den 0", refusesChance(1, 0), true);
        due("14 den -1", refusesChance(1, -1), true);
        due("14 den least", refusesChance(0, Long.MIN_VALUE), true);
        due("14 edge", refusesChance(0, 1), false);
    }

    private static void order() {
        JuryDesk desk = letterN();
        int[] want = {0, 1, 2, 3, 0, 1, 3, 2, 1, 0, 2, 3, 1, 0, 3, 2, 1, 3, 0, 2};
        for (int n = 0; n < 5; n++) {
            for (int r = 1; r <= 4; r++) {
                due("15 N " + n + " at " + r, desk.order(0, n, r), want[n * 4 + r - 1]);
            }
        }
        for (long n : new long[] {-1, 5, 1L << 32, Long.MIN_VALUE, Long.MAX_VALUE}) {
            due("15 n " + n, desk.order(0, n, 1), -1);
        }
        for (int r : new int[] {0, 5, -1, 17, Integer.MIN_VALUE, Integer.MAX_VALUE}) {
            due("15 r " + r, desk.order(0, 0, r), -1);
        }
        desk.scratch(0, 1);
        due("15 scratched", desk.order(0, 0, 2), 2);
        due("15 scratched", desk.order(0, 2, 1), 3);
        due("15 scratched", desk.order(0, 0, 4), -1);
        JuryDesk all = open(16);
        due("15 the last of all", all.order(0, 20922789887999L, 1), 15);
        due("15 behind the last", all.order(0, 20922789888000L, 1), -1);
    }

    private static void give() {
        JuryDesk desk = new JuryDesk();
        for (int r = 1; r <= 16; r++) {
            due("16 at first", desk.give(r, r - 1), -1);
        }
        for (int r = 1; r <= 16; r++) {
            due("16 what stood there", desk.give(r, JuryDesk.NONE), r - 1);
        }
        due("16 nothing again", desk.give(4, 3), -1);
        for (int r : new int[] {0, 17, -1, Integer.MIN_VALUE, Integer.MAX_VALUE}) {
            due("16 r " + r, refusesGive(desk, r, 1), true);
        }
        for (int a : new int[] {-2, 16, Integer.MIN_VALUE, Integer.MAX_VALUE}) {
            due("16 a " + a, refusesGive(desk, 4, a), true);
        }
        due("16 refused changes nothing", desk.give(4, 15), 3);
        desk.heat(0, 4);
        due("16 of whatever heat", desk.give(4, 0), 15);
    }

    private static void giveRow(JuryDesk desk, int... entries) {
        for (int i = 0; i < entries.length; i++) {
            desk.give(i + 1, entries[i]);
        }
    }

    private static void numberOf() {
        JuryDesk desk = letterN();
        due("17 empty row", desk.numberOf(0), -1);
        giveRow(desk, 1, 3, 0, 2);
        due("17 last", desk.numberOf(0), 4);
        desk.give(5, 1);
        due("17 what is behind", desk.numberOf(0), 4);
        giveRow(desk, 0, 1, 2, 3);
        due("17 first", desk.numberOf(0), 0);
        giveRow(desk, 1, 0, 2, 3);
        due("17 middle", desk.numberOf(0), 2);
        giveRow(desk, 0, 2, 1, 3);
        due("17 against a verdict", desk.numberOf(0), -1);
        giveRow(desk, 0, 1, 2, 2);
        due("17 twice", desk.numberOf(0), -1);
        giveRow(desk, 0, 1, 2, 4);
        due("17 not there", desk.numberOf(0), -1);
        giveRow(desk, 0, 1, 2, JuryDesk.NONE);
        due("17 too short", desk.numberOf(0), -1);
        due("17 scratched", desk.scratch(0, 3), true);
        due("17 now long enough", desk.numberOf(0), 0);
        giveRow(desk, 3, 0, 1, 2);
        due("17 with the scratched one", desk.numberOf(0), -1);
        desk.heat(9, 4);
        due("17 the row serves all heats", desk.numberOf(9), 18);
        JuryDesk all = open(16);
        giveRow(all, 15, 14, 13, 12, 11, 10, 9, 8, 7, 6, 5, 4, 3, 2, 1, 0);
        due("17 the last of all", all.numberOf(0), 20922789887999L);
    }

    private static void dueAsk(String what, JuryDesk desk, int low, int high) {
        due(what + ", lower", desk.ask(0, 0), low);
        due(what + ", upper", desk.ask(0, 1), high);
    }

    private static void ask() {
        dueAsk("18 N", letterN(), 0, 1);
        JuryDesk desk = letterN();
        for (int what : new int[] {-1, 2, Integer.MIN_VALUE, Integer.MAX_VALUE}) {
            due("18 what " + what, desk.ask(0, what), -1);
        }
        dueAsk("18 all settled", ladder(5), -1, -1);
        dueAsk("18 one entry", open(1), -1, -1);
        dueAsk("18 open", open(16), 0, 1);
        // 0 above 1 above 2, and 3: 0 is ahead of 3 in 3 of 4, 1 in 2, 2 in 1.
        JuryDesk three = open(4);
        three.better(0, 0, 1);
        three.better(0, 1, 2);
        dueAsk("18 the evenest", three, 1, 3);
        three.scratch(0, 1);
        dueAsk("18 scratched", three, 0, 2);
        // 3 above 2 above 1, and 0: only the pair of the least entry and the middle one is even.
        JuryDesk turned = open(4);
        turned.better(0, 3, 2);
        turned.better(0, 2, 1);
        dueAsk("18 the evenest, turned", turned, 0, 2);
    }

    private static void tie() {
        due("19 N", letterN().tie(0), 2);
        due("19 ladder", ladder(16).tie(0), 1);
        due("19 open", open(16).tie(0), 16);
        JuryDesk star = open(6);
        for (int a = 0; a < 5; a++) {
            star.better(0, 5, a);
        }
        due("19 star", star.tie(0), 5);
        star.scratch(0, 2);
        due("19 scratched", star.tie(0), 4);
        star.scratch(0, 5);
        due("19 top scratched", star.tie(0), 4);
    }

    private static void dueTie(String what, JuryDesk desk, int... entries) {
        due(what + ", size", desk.tie(0), entries.length);
        for (int i = 0; i < entries.length; i++) {
            due(what + ", " + i, desk.tieEntry(0, i), entries[i]);
        }
        due(what + ", behind", desk.tieEntry(0, entries.length), -1);
    }

    private static void tieEntry() {
        dueTie("20 N", letterN(), 0, 1);
        dueTie("20 ladder", ladder(9), 0);
        dueTie("20 open", open(5), 0, 1, 2, 3, 4);
        JuryDesk star = open(5);
        star.better(0, 0, 1);
        star.better(0, 0, 2);
        star.better(0, 0, 4);
        dueTie("20 the least one stands in no widest tie", star, 1, 2, 3, 4);
        star.scratch(0, 2);
        dueTie("20 scratched", star, 1, 3, 4);
        star.scratch(0, 4);
        dueTie("20 the least again", star, 0, 3);
        for (int i : NO_INDEX) {
            due("20 i " + i, star.tieEntry(0, i), -1);
        }
        // 0 above 2, 1 above 3: the ties are 01, 03, 12 and 23.
        JuryDesk two = open(4);
        two.better(0, 0, 2);
        two.better(0, 1, 3);
        dueTie("20 the least second one", two, 0, 1);
        two.better(0, 0, 1);
        dueTie("20 1 and 2", two, 1, 2);
    }

    private static void chains() {
        due("21 N", letterN().chains(0), 2);
        due("21 ladder", ladder(16).chains(0), 1);
        due("21 open", open(16).chains(0), 16);
        JuryDesk desk = open(5);
        // Both ways go through 2, so that only what is settled, not verdicts alone, gives two rows.
        desk.better(0, 0, 2);
        desk.better(0, 1, 2);
        desk.better(0, 2, 3);
        desk.better(0, 2, 4);
        due("21 over a shared entry", desk.chains(0), 2);
        desk.scratch(0, 2);
        due("21 scratched", desk.chains(0), 4);
    }

    private static void dueFollowers(String what, JuryDesk desk, int... followers) {
        for (int a = 0; a < followers.length; a++) {
            due(what + ", behind " + a, desk.follows(0, a), followers[a]);
        }
    }

    private static void follows() {
        dueFollowers("22 N", letterN(), 2, 3, -1, -1);
        dueFollowers("22 ladder", ladder(4), 1, 2, 3, -1);
        dueFollowers("22 open", open(3), -1, -1, -1);
        JuryDesk forced = open(4);
        forced.better(0, 0, 1);
        forced.better(0, 0, 2);
        forced.better(0, 3, 1);
        dueFollowers("22 few rows go first", forced, 2, -1, -1, 1);
        JuryDesk shared = open(5);
        shared.better(0, 0, 2);
        shared.better(0, 1, 2);
        shared.better(0, 2, 3);
        shared.better(0, 2, 4);
        dueFollowers("22 over a shared entry", shared, 2, 3, 4, -1, -1);
        JuryDesk one = open(3);
        one.better(0, 0, 2);
        one.better(0, 1, 2);
        dueFollowers("22 nothing is more than any entry", one, 2, -1, -1);
        one.scratch(0, 0);
        dueFollowers("22 scratched", one, -1, 2, -1);
        for (int a : NO_INDEX) {
            due("22 a " + a, one.follows(0, a), -1);
        }
        due("22 not there", one.follows(0, 3), -1);
    }

    private static void dueCounts(String what, JuryDesk desk, int... counts) {
        for (int i = 0; i < 4; i++) {
            due("23 " + what + ", " + i, desk.count(0, i), counts[i]);
        }
    }

    private static void count() {
        JuryDesk desk = letterN();
        dueCounts("N", desk, 4, 3, 3, 3);
        desk.better(0, 2, 3);
        dueCounts("pairs over others", desk, 4, 4, 4, 5);
        desk.better(0, 0, 2);
        dueCounts("the same again", desk, 4, 5, 5, 5);
        desk.withdraw(0, 2);
        dueCounts("withdrawn", desk, 4, 5, 4, 4);
        desk.scratch(0, 2);
        dueCounts("scratched", desk, 3, 5, 1, 1);
        desk.withdraw(0, 1);
        dueCounts("withdrawn behind scratched", desk, 3, 5, 1, 1);
        dueCounts("ladder", ladder(16), 16, 15, 15, 120);
        for (int what : new int[] {-1, 4, Integer.MIN_VALUE, Integer.MAX_VALUE}) {
            due("23 what " + what, desk.count(0, what), -1);
            due("23 what first " + what, desk.count(99, what), -1);
        }
    }

    private static void heatsAreApart() {
        JuryDesk desk = new JuryDesk();
        for (int h = 0; h < 12; h++) {
            desk.heat(h, h + 1);
        }
        long factorial = 1;
        for (int h = 0; h < 12; h++) {
            factorial *= h + 1;
            due("apart, orders", desk.orders(h), factorial);
        }
        desk.better(3, 0, 1);
        due("apart, changed", desk.orders(3), 12);
        due("apart, unchanged", desk.orders(4), 120);
        due("apart, unchanged", desk.settled(4, 0, 1), false);
        due("apart, own numbers", desk.better(4, 1, 0), 1);
        due("apart, order", desk.order(3, 11, 1), 3);
        due("apart, order", desk.order(4, 59, 1), 4);
        due("apart, order", desk.order(3, 11, 4), 1);
        desk.scratch(4, 4);
        due("apart, scratched", desk.count(3, 0), 4);
        desk.heat(4, 2);
        due("apart, anew", desk.settled(3, 0, 1), true);
    }

    private static void onlyChangesChange() {
        JuryDesk desk = letterN();
        desk.better(0, 2, 0);
        desk.better(0, 3, 3);
        desk.better(0, 0, 4);
        desk.withdraw(0, 4);
        desk.scratch(0, 4);
        giveRow(desk, 3, 2, 1, 0);
        due("refused, orders", desk.orders(0), 5);
        due("refused, atRank", desk.atRank(0, 3, 2), 1);
        dueCounts("refused", desk, 4, 3, 3, 3);
        // What is told must follow each change, whatever was told before.
        desk.tie(0);
        desk.ask(0, 0);
        desk.better(0, 3, 0);
        due("changed, orders", desk.orders(0), 1);
        due("changed, order", desk.order(0, 0, 1), 1);
        due("changed, before", desk.before(0, 3, 0), 1);
        due("changed, tie", desk.tie(0), 1);
        due("changed, ask", desk.ask(0, 0), -1);
        due("changed, follows", desk.follows(0, 1), 3);
        desk.withdraw(0, 4);
        due("back, orders", desk.orders(0), 5);
        due("back, before", desk.before(0, 3, 0), 1);
        due("back, before", desk.before(0, 0, 3), 4);
        due("back, tie", desk.tie(0), 2);
        due("back, follows", desk.follows(0, 1), 3);
    }
}
