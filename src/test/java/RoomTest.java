import java.lang.management.ManagementFactory;

/** A run of 512 of the dearest calls on one object makes no more than a small part of the room, and an end comes. */
public final class RoomTest {
    // The room has 7.3 million elements; in bytes (8 each) one run of one object may take a tenth of that.
    private static final long MOST_BYTES = 5840000;
    private static final String DEAR = "tube 84;hand 9;miss 99;noise 99;pressure 100;hole 0 outer 1;hole 20 left 1 slow;"
            + "hole 40 right 1;hole 60 rim 1;hole 80 outer 1;hole 83 rim 1;leak minute/999+pressure/99*load;"
            + "holds (((((minutes+cold)-damp)*near)/2)=3) or not minutes<60;";

    private static final com.sun.management.ThreadMXBean THREADS =
            (com.sun.management.ThreadMXBean) ManagementFactory.getThreadMXBean();

    private RoomTest() {
    }

    interface Call {
        void make(BucketTube x, int i);
    }

    public static void main(String[] args) {
        room("dip", (x, i) -> x.dip(i % 84, 1));
        room("listen", (x, i) -> x.listen(i % 4, 1));
        room("thorn", (x, i) -> x.thorn(i % 84));
        room("minutes", (x, i) -> x.minutes(600, true));
        room("patch", (x, i) -> x.patch(i % 6, 60, 0, 0, i));
        room("dip and undo", (x, i) -> {
            x.dip(3, 2);
            x.undo();
        });
        room("plan", (x, i) -> x.plan(600));
        room("seeks", (x, i) -> x.seeks(i, 30, false, 1));
        room("sweep", (x, i) -> x.sweep(i, true, 1, 0));
        room("enough", (x, i) -> x.enough(0));
        room("flat", (x, i) -> x.flat(true));
        room("which", (x, i) -> x.which(0, true, 0));
        room("best", (x, i) -> x.best(60, 100, 100, 100, 0));
        room("tacks", (x, i) -> x.tacks(2));
        room("dark", (x, i) -> x.dark(0));
        room("cause", (x, i) -> x.cause(5, -1));
        room("image and restore", (x, i) -> {
            x.image();
            x.pump();
            x.restore();
        });
        room("shed", (x, i) -> Due.shed(x, "tube 84;"));
        room("shed with a fault", (x, i) -> Due.shed(x, "tube 84;frog;"));
        for (int i = 0; i < 5; i++) {
            BucketTube x = Due.tube(DEAR);
            Due.due("rides end", 1, x.rides(60 - i) >= 0 ? 1 : 0);
        }
        Due.end();
    }

    private static void room(String what, Call call) {
        long before = THREADS.getThreadAllocatedBytes(Thread.currentThread().getId());
        BucketTube x = Due.tube(DEAR);
        for (int i = 0; i < 512; i++) {
            call.make(x, i);
        }
        long made = THREADS.getThreadAllocatedBytes(Thread.currentThread().getId()) - before;
        Due.due(what + " makes " + made + " bytes: no more than its part of the room", 1, made <= MOST_BYTES ? 1 : 0);
    }
}
