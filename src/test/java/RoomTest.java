import com.sun.management.ThreadMXBean;
import java.lang.management.ManagementFactory;

/** Calls keep to the rows that an object has: what 512 of the dearest of them make anew stays small. */
final class RoomTest {
    private static final long MOST_BYTES = 400_000;

    private RoomTest() {
    }

    public static void main(String[] args) {
        ThreadMXBean threads = (ThreadMXBean) ManagementFactory.getThreadMXBean();
        long me = Thread.currentThread().getId();
        long most = 0;
        for (int run = 0; run < 10; run++) {
            long before = threads.getThreadAllocatedBytes(me);
            work();
            long made = threads.getThreadAllocatedBytes(me) - before;
            // the first run makes what the machine itself needs for the classes
            most = run == 0 ? 0 : Math.max(most, made);
        }
        if (most > MOST_BYTES) {
            System.out.println("one object and 512 calls of it made " + most + " bytes");
            System.exit(1);
        }
    }

    private static void work() {
        PointFirst x = Due.ready();
        x.image(true);
        for (int i = 0; i < 50; i++) {
            x.feed('l' << 24 | 'i' << 16 | 'f' << 8 | 't', ' ' << 24 | '1' << 16 | ';' << 8 | 'd',
                    'i' << 24 | 'p' << 16 | ' ' << 8 | '5', ';' << 24 | ' ' << 16 | ' ' << 8 | ' ',
                    ' ' << 24 | ' ' << 16 | ' ' << 8 | ' ');
            x.text(0, 0);
            x.throwIt(50, 30, 0, 1);
            x.leastForce(0, 0, 2000, 0);
            x.chance(0, 3000, 6, 30, 0, 0);
            x.train(0, 12, 1000, 0);
            x.image(i % 2 == 0);
            x.undo();
            x.angle(50, 0, 0, 3);
            x.would(0);
        }
    }
}
