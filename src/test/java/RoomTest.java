import com.sun.management.ThreadMXBean;
import java.lang.management.ManagementFactory;

/** The dearest run stays far below the room of all calls: what it makes is counted in bytes. */
public final class RoomTest {
    private static final Checks C = new Checks("RoomTest");
    /** Each has 8 states and 24 moves; held against one another one comes to some 38,000 pairs of sets. */
    private static final String ONE =
        "0b5;0c3;0d1;1b7;1c7;1d2;2b1;2c6;2d0;2d2;3b4;3c2;3d7;4b0;4c4;4d4;5b2;5c0;6b6;6c5;6d3;7b3;7c1;7d6;";
    private static final String OTHER =
        "0b0;0c0;0d3;1b5;1c7;1d0;2b6;2d0;3b4;3c3;3d0;4a2;4b3;4c1;4c4;4d4;5b7;5c3;5c5;5d1;6b1;6d3;7b2;7c2;";

    public static void main(String[] args) {
        ThreadMXBean threads = (ThreadMXBean) ManagementFactory.getThreadMXBean();
        dearest();
        long id = Thread.currentThread().getId();
        long before = threads.getThreadAllocatedBytes(id);
        dearest();
        long dear = threads.getThreadAllocatedBytes(id) - before;
        System.out.println("RoomTest: the dearest run makes " + dear + " bytes");
        C.holds("the dearest run makes " + dear + " bytes", dear < 8_000_000);
        before = threads.getThreadAllocatedBytes(id);
        for (int i = 0; i < 512; i++) {
            new BesideWalk().process(0, 2);
        }
        long news = threads.getThreadAllocatedBytes(id) - before;
        System.out.println("RoomTest: 512 new objects make " + news + " bytes");
        C.holds("512 new objects make " + news + " bytes", news < 28_000_000);
        C.end();
    }

    private static void dearest() {
        BesideWalk x = new BesideWalk();
        Checks.build(x, 0, 8, ONE);
        Checks.build(x, 1, 8, OTHER);
        x.together(0, 1, 15, 2);
        long digest = x.digest();
        for (int i = 0; i < 20; i++) {
            C.due("the same again", x.digest(), digest);
            x.holds(0, 1, 0);
            x.holds(1, 0, 0);
            x.process(3, 1 + i % 8);
            x.back();
        }
    }
}
