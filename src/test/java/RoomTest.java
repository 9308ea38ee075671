import java.lang.management.ManagementFactory;

/**
 * All calls of a run must live in one room of some 7.3 million fields and elements. Bytes are
 * counted here: there are never fewer of them than of fields and elements.
 */
public final class RoomTest {
    private static final long ROOM = 7_300_000;
    private static final int CALLS = 512;

    public static void main(String[] args) {
        // What the machine itself makes when a class is first used is not the desk's.
        growing();
        changing();
        long most = Math.max(bytesOf(true), bytesOf(false));
        System.out.println("the dearest run takes " + most + " bytes");
        if (most > ROOM) {
            System.out.println("that is more than " + ROOM);
            System.exit(1);
        }
    }

    private static long bytesOf(boolean growing) {
        com.sun.management.ThreadMXBean threads =
            (com.sun.management.ThreadMXBean) ManagementFactory.getThreadMXBean();
        long id = Thread.currentThread().getId();
        long start = threads.getThreadAllocatedBytes(id);
        if (growing) {
            growing();
        } else {
            changing();
        }
        return threads.getThreadAllocatedBytes(id) - start;
    }

    /** Each heat with one entry more than the one before, so that rows can't be used again. */
    private static void growing() {
        JuryDesk desk = new JuryDesk();
        for (int i = 0; i < CALLS / 8; i++) {
            int h = i % 12;
            desk.heat(h, Math.min(16, i / 3 + 1));
            desk.better(h, 0, 1);
            desk.ask(h, 0);
            desk.follows(h, 0);
            desk.order(h, 0, 1);
            desk.scratch(h, 0);
            desk.orders(h);
            desk.tie(h);
        }
    }

    private static void changing() {
        JuryDesk desk = new JuryDesk();
        desk.heat(0, 16);
        for (int i = 0; i < CALLS / 4; i++) {
            int a = i * 7 % 16;
            int b = i * 5 % 16;
            desk.better(0, Math.min(a, b), Math.max(a, b));
            desk.meanRank(0, a, true);
            desk.better(0, Math.max(a, b), Math.min(a, b));
            desk.chains(0);
        }
    }
}
