import java.lang.management.ManagementFactory;

/** All calls of a run live in one room: what the dearest calls make, times 512, is to stay far below it. */
public final class RoomTest {
    private static final int CALLS = 512;
    private static final long BYTES = 400_000;

    public static void main(String[] args) {
        com.sun.management.ThreadMXBean room =
                (com.sun.management.ThreadMXBean) ManagementFactory.getThreadMXBean();
        long self = Thread.currentThread().getId();
        for (int kind = 0; kind < 5; kind++) {
            run(kind);
            long before = room.getThreadAllocatedBytes(self);
            run(kind);
            long made = room.getThreadAllocatedBytes(self) - before;
            Check.yes("kind " + kind + " makes " + made + " bytes", made < BYTES);
        }
        Check.finish();
    }

    private static void run(int kind) {
        YamRiders post = new YamRiders();
        for (int s = 1; s < 12; s++) {
            post.road(s - 1, s, 1);
        }
        post.tablet(1);
        for (int call = 0; call < CALLS; call++) {
            switch (kind) {
                case 0 -> post.statutes();
                case 1 -> {
                    post.kill(call - 1);
                    post.ride(0, 0, 11);
                }
                case 2 -> post.horse(call % 12, 100);
                case 3 -> post.next();
                default -> {
                    post.horse(call % 2, 100);
                    post.feed(0, 0, 0x01010101, 0, 0);
                    post.end(12);
                    post.leading();
                    post.hours(0, 11);
                }
            }
        }
    }
}
