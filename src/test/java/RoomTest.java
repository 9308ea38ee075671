import java.lang.management.ManagementFactory;
import java.util.ArrayList;
import java.util.Comparator;
import java.util.List;
import java.util.function.Consumer;

/**
 * What all calls of a run make must go into one room of some 600,000 objects and arrays and 7.3
 * million fields and elements in all, also what is left unused later. Bytes are counted here: there
 * are never fewer of them than of fields and elements, and an object takes 16 of them or more, so
 * that no 600,000 objects go into as many bytes as the room has fields.
 */
public final class RoomTest {
    private static final long ROOM = 7_300_000;
    private static final int CALLS = 512;
    private static final int[] LEFT_OUT = {1 << 15 | 1 << 14, 1 << 15 | 1 << 13, 1 << 15 | 1 << 12, 1 << 15 | 1 << 11};
    private static final long FACTORIAL_14 = 87178291200L;
    private static final long FACTORIAL_15 = 1307674368000L;

    private static int wrong = 0;

    public static void main(String[] args) {
        // What the machine itself makes when a class is first used is not the desk's.
        measureAll(false);
        measureAll(true);
        System.out.println(wrong == 0 ? "every run goes into the room" : wrong + " faults");
        if (wrong != 0) {
            System.exit(1);
        }
    }

    private static void measureAll(boolean asTest) {
        long dearest = 0;
        long making = 0;
        List<Meter> meters = new ArrayList<>();
        meters.add(measure("heats of more and more entries", RoomTest::growing));
        meters.add(measure("one heat that changes", RoomTest::changing));
        meters.add(measure("all heats in turn", RoomTest::inTurn));
        meters.add(measure("sets of live entries that rise by scratches", desk -> rising(desk, 132)));
        meters.add(measure("the last 56 of these sets", desk -> rising(desk, 56)));
        meters.add(measure("calls that throw", RoomTest::throwing));
        for (Meter meter : meters) {
            dearest = Math.max(dearest, meter.dearest);
            making = Math.max(making, meter.making);
            if (asTest) {
                meter.report();
            }
        }
        if (asTest) {
            reportWorst(making, dearest);
        }
    }

    private static Meter measure(String name, Consumer<Meter> run) {
        Meter meter = new Meter(name);
        run.accept(meter);
        return meter;
    }

    /** No run can be dearer than one in which each call is the dearest one of all runs above. */
    private static void reportWorst(long making, long dearest) {
        long most = making + CALLS * dearest;
        System.out.println("a desk takes " + making + " bytes, its dearest call " + dearest
            + ", so no run takes more than " + most);
        check("no run of the dearest calls goes into the room", most <= ROOM);
    }

    private static void check(String fault, boolean holds) {
        if (!holds) {
            wrong++;
            System.out.println(fault);
        }
    }

    /** Each heat with one entry more than the one before. */
    private static void growing(Meter desk) {
        for (int i = 0; i < CALLS / 8; i++) {
            int h = i % 12;
            desk.heat(h, Math.min(16, i / 3 + 1));
            desk.better(h, 0, 1);
            desk.ask(h);
            desk.follows(h);
            desk.order(h);
            desk.scratch(h, 0);
            desk.orders(h);
            desk.tie(h);
        }
    }

    private static void changing(Meter desk) {
        desk.heat(0, 16);
        for (int i = 0; i < CALLS / 4 - 1; i++) {
            int a = i * 7 % 16;
            int b = i * 5 % 16;
            desk.better(0, Math.min(a, b), Math.max(a, b));
            desk.meanRank(0, a);
            desk.better(0, Math.max(a, b), Math.min(a, b));
            desk.chains(0);
        }
    }

    /** One heat after the other is asked, so that nothing counted for one is there for the next. */
    private static void inTurn(Meter desk) {
        for (int h = 0; h < 12; h++) {
            desk.heat(h, 16);
        }
        for (int i = 0; i < 100; i++) {
            int h = i % 12;
            desk.numberOf(h);
            desk.order(h);
            desk.before(h);
            desk.atRank(h);
            desk.tieEntry(h);
        }
    }

    /** The last ones of 132 sets, scratched so that the set of live entries rises each time. */
    private static void rising(Meter desk, int sets) {
        List<Integer> all = fallingSets();
        check("there are " + all.size() + " sets to scratch", all.size() == 132);
        for (int set : all.subList(all.size() - sets, all.size())) {
            desk.heat(0, 16);
            for (int a = 0; a < 16; a++) {
                if ((set >> a & 1) != 0) {
                    check("scratch of " + a + " is refused", desk.scratch(0, a));
                }
            }
            long due = Integer.bitCount(set) == 1 ? FACTORIAL_15 : FACTORIAL_14;
            check("wrong orders without the set " + set, desk.orders(0) == due);
        }
    }

    private static List<Integer> fallingSets() {
        List<Integer> sets = new ArrayList<>();
        for (int a = 0; a < 16; a++) {
            sets.add(1 << a);
            for (int b = 0; b < a; b++) {
                sets.add(1 << a | 1 << b);
            }
        }
        for (int set : LEFT_OUT) {
            sets.remove(Integer.valueOf(set));
        }
        sets.sort(Comparator.reverseOrder());
        return sets;
    }

    private static void throwing(Meter desk) {
        for (int i = 0; i < CALLS / 4; i++) {
            desk.refusedHeat(12, 16);
            desk.refusedHeat(0, 17);
            desk.refusedGive(0, 0);
            desk.refusedChance(-1, 1);
        }
    }

    /** A desk whose calls are counted, with the bytes that each of them takes. */
    private static final class Meter {
        final String name;
        private final com.sun.management.ThreadMXBean threads =
            (com.sun.management.ThreadMXBean) ManagementFactory.getThreadMXBean();
        private final long thread = Thread.currentThread().getId();
        private final JuryDesk desk;
        final long making;
        long dearest = 0;
        private long sum = 0;
        private int calls = 0;
        private long start;

        Meter(String name) {
            this.name = name;
            begin();
            desk = new JuryDesk();
            making = taken();
        }

        void report() {
            System.out.println(name + ": " + calls + " calls take " + (making + sum) + " bytes");
            check(name + ": that is more than " + ROOM, making + sum <= ROOM);
            check(name + ": more calls than a desk allows", calls <= CALLS);
        }

        private void begin() {
            start = threads.getThreadAllocatedBytes(thread);
        }

        private long taken() {
            return threads.getThreadAllocatedBytes(thread) - start;
        }

        private void end() {
            long bytes = taken();
            calls++;
            sum += bytes;
            dearest = Math.max(dearest, bytes);
        }

        void heat(int h, int n) {
            begin();
            desk.heat(h, n);
            end();
        }

        void better(int h, int a, int b) {
            begin();
            desk.better(h, a, b);
            end();
        }

        boolean scratch(int h, int a) {
            begin();
            boolean done = desk.scratch(h, a);
            end();
            return done;
        }

        long orders(int h) {
            begin();
            long orders = desk.orders(h);
            end();
            return orders;
        }

        void atRank(int h) {
            begin();
            desk.atRank(h, 0, 1);
            end();
        }

        void before(int h) {
            begin();
            desk.before(h, 0, 1);
            end();
        }

        void meanRank(int h, int a) {
            begin();
            desk.meanRank(h, a, true);
            end();
        }

        void order(int h) {
            begin();
            desk.order(h, 0, 1);
            end();
        }

        void numberOf(int h) {
            begin();
            desk.numberOf(h);
            end();
        }

        void ask(int h) {
            begin();
            desk.ask(h, 0);
            end();
        }

        void tie(int h) {
            begin();
            desk.tie(h);
            end();
        }

        void tieEntry(int h) {
            begin();
            desk.tieEntry(h, 0);
            end();
        }

        void chains(int h) {
            begin();
            desk.chains(h);
            end();
        }

        void follows(int h) {
            begin();
            desk.follows(h, 0);
            end();
        }

        void refusedHeat(int h, int n) {
            begin();
            try {
                desk.heat(h, n);
                check("heat is not refused", false);
            } catch (IllegalArgumentException e) {
                end();
            }
        }

        void refusedGive(int r, int a) {
            begin();
            try {
                desk.give(r, a);
                check("give is not refused", false);
            } catch (IllegalArgumentException e) {
                end();
            }
        }

        void refusedChance(long num, long den) {
            begin();
            try {
                desk.chance(num, den, true);
                check("chance is not refused", false);
            } catch (IllegalArgumentException e) {
                end();
            }
        }
    }
}
