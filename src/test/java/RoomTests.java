import java.lang.management.ManagementFactory;

/** All calls of a run live in one room, which is not cleared: what a new object and its calls make must be little. */
public final class RoomTests {
    /** In bytes, of which some 50 million are in the room. */
    private static final long MOST_NEW = 400_000;
    private static final long MOST_CALLS = 20_000_000;

    private static final com.sun.management.ThreadMXBean THREADS =
            (com.sun.management.ThreadMXBean) ManagementFactory.getThreadMXBean();

    public static void main(String[] args) {
        WallHarbour[] made = new WallHarbour[64];
        long before = bytes();
        for (int i = 0; i < made.length; i++) {
            made[i] = new WallHarbour();
        }
        long each = (bytes() - before) / made.length;
        Check.tell(each < MOST_NEW, "a new object takes " + each + " bytes");

        for (int warm = 0; warm < 3; warm++) {
            go(made[warm]);
        }
        before = bytes();
        go(made[10]);
        long all = bytes() - before;
        Check.tell(all < MOST_CALLS, "the calls of a run take " + all + " bytes");
        Check.finish("RoomTests");
    }

    private static long bytes() {
        return THREADS.getThreadAllocatedBytes(Thread.currentThread().getId());
    }

    private static void go(WallHarbour x) {
        Texts.harbour(x, "hole 0 10; hole 5 10; thing 10 100 0 0 20 from 0 to 50; thing 5 50 2 0 12 from 10 to 20;"
                + "ship west 60 40 3 0 5 pace 2 from 0 to 800; tide 0 3");
        Texts.law(x, "charge 5 if seen and (far + 3 > 9 or not ship); charge 9");
        x.now(12, 700);
        for (int i = 0; i < 30; i++) {
            x.draw(0, 0);
            x.charges(12);
            x.charge(0);
            x.places(-1, 20, 2, 0);
            x.setting(7, 1, 0);
            x.way(0);
            x.met(0, 1, 0);
            x.which(0);
            x.slips();
            x.when(0, true);
            x.mark(0, 10, 0, 5, true);
            x.image();
            x.back();
        }
    }
}
