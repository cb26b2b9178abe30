import com.sun.management.ThreadMXBean;
import java.lang.management.ManagementFactory;

/** How much a run of calls makes: an object and its 512 calls have to fit into one small room. */
public final class RoomTest {
    private static final ThreadMXBean THREADS = (ThreadMXBean) ManagementFactory.getThreadMXBean();
    /** The room has 7.3 million fields and elements: this is a small part of it. */
    private static final long MOST_BYTES = 1 << 20;
    /** What the counting itself may make. */
    private static final long NEARLY_NOTHING = 1 << 10;

    public static void main(String[] args) {
        makes("a new object and 512 calls that tell", RoomTest::tellAndWipe, MOST_BYTES);
        ClockZones x = Nets.walkers(6, 5, 4);
        makes("to explore 40 times", () -> explore(x), NEARLY_NOTHING);
        makes("to ask for all that can be reached", () -> ask(x), NEARLY_NOTHING);
        makes("a run", () -> run(x), NEARLY_NOTHING);
        makes("refused calls", () -> refused(x), NEARLY_NOTHING);
        Due.done();
    }

    private static void makes(String what, Runnable calls, long most) {
        long before = THREADS.getCurrentThreadAllocatedBytes();
        calls.run();
        long made = THREADS.getCurrentThreadAllocatedBytes() - before;
        Due.hold(what + " makes " + made + " bytes, at most " + most, made <= most);
    }

    /** Ten calls and ten answers make the most moves that twenty edges can. */
    private static void tellAndWipe() {
        ClockZones x = new ClockZones();
        for (int call = 0; call < 512; call++) {
            int e = call % 21;
            if (e == 20) {
                x.wipe();
            } else {
                x.edge(e % 2, 0, 1, e % 2 == 0 ? 1 : -1, 14);
            }
        }
    }

    private static void explore(ClockZones x) {
        for (int i = 0; i < 40; i++) {
            x.explore(120);
        }
    }

    private static void ask(ClockZones x) {
        for (int i = 0; i < 20; i++) {
            x.state(119, 3);
            x.bound(119, 1, 2);
            x.reach(5, 4, 3);
            x.has(119, 0, 0, 0);
            x.way(119, 11, 0);
            x.moment(119, 11);
            x.greatest(3);
            x.about(0, 0);
            x.count(i % 7);
            x.digest();
        }
    }

    private static void run(ClockZones x) {
        x.begin();
        for (int e = 0; e < 12; e++) {
            x.pass(64);
            x.move(e, ClockZones.NONE);
            x.here();
            x.run(e % 9);
        }
    }

    private static void refused(ClockZones x) {
        for (int i = 0; i < 10; i++) {
            x.edge(3, 0, 0, 0, 0);
            x.guard(12, 1, 1, 1);
            x.limit(0, 0, 0, 0, 0);
            x.explore(120);
            x.move(12, ClockZones.NONE);
        }
    }
}
