import java.math.BigInteger;

/** Promise 21: the digest, told again by hand and without wrapping until the end. */
public final class DigestTest {
    private static final int NONE = ClockZones.NONE;
    private static BigInteger h;

    public static void main(String[] args) {
        Said.in("Promise 21: digest");
        newObject();
        edges();
        limits();
        states();
        noStates();
        orderOfBounds();
        allStates();
        runs();
        Said.done();
    }

    private static void start() {
        h = BigInteger.valueOf(71);
    }

    private static void add(long... numbers) {
        for (long number : numbers) {
            h = h.multiply(BigInteger.valueOf(31)).add(BigInteger.valueOf(number));
        }
    }

    /** The limits of a net that has none. */
    private static void noLimits() {
        add(new long[18]);
    }

    /** Without a run, run() tells STATE. */
    private static void noRun() {
        add(0, -103, -103, -103, -103, -103, -103, -103, -103);
    }

    /** The one long that is left of h. */
    private static void due(String name, ClockZones x) {
        Due.be(name, x.digest(), h.longValue());
        Due.be(name + ", asked again", x.digest(), h.longValue());
    }

    private static void newObject() {
        Said.that("h is 71, then for each of these numbers, in order, 31 times h, and it (as longs, wrapping):");
        ClockZones x = new ClockZones();
        start();
        noLimits();
        noRun();
        Due.hold("it wraps", h.bitLength() > 64);
        due("new: digest()", x);
        x.edge(0, 0, 0, 0, 0);
        x.wipe();
        due("wiped: digest()", x);
        x.edge(3, 0, 0, 0, 0);
        x.explore(0);
        x.pass(0);
        due("refused: digest()", x);
    }

    private static void edges() {
        Said.that("of each EDGE what about() tells for 0 to 5, of its GUARDS CLOCK, sort, c;");
        ClockZones x = new ClockZones();
        x.edge(1, 2, 3, -4, 14);
        start();
        add(1, 2, 3, -4, 14, 0);
        noLimits();
        noRun();
        due("one edge: digest()", x);
        x.edge(0, 0, 1, 0, 2);
        x.guard(1, 3, 4, 1000);
        x.guard(1, 1, 0, 7);
        x.guard(0, 2, 2, 0);
        start();
        add(1, 2, 3, -4, 14, 1, 2, 2, 0);
        add(0, 0, 1, 0, 2, 2, 3, 4, 1000, 1, 0, 7);
        noLimits();
        noRun();
        due("two edges with guards: digest()", x);
    }

    private static void limits() {
        Said.that("of each MACHINE and PLACE how many LIMITS, of these CLOCK, sort, c;");
        ClockZones x = new ClockZones();
        x.limit(2, 5, 1, 0, 0);
        x.limit(0, 0, 2, 1, 5);
        x.limit(2, 5, 3, 1, 1000);
        x.limit(1, 0, 1, 0, 6);
        start();
        add(1, 2, 1, 5, 0, 0, 0, 0, 0);
        add(1, 1, 0, 6, 0, 0, 0, 0, 0);
        add(0, 0, 0, 0, 0, 2, 1, 0, 0, 3, 1, 1000);
        noRun();
        due("limits: digest()", x);
    }

    private static void states() {
        Said.that("if explore() is not needed, of each STATE what state() tells for 0 to 6,");
        ClockZones x = new ClockZones();
        x.explore(1);
        start();
        noLimits();
        add(0, 0, 0, -1, -1, -1, 0);
        add(1, 1, 1, 1, 100000, 1, 1, 1, 100000, 1, 1, 1, 100000, 1, 1, 1);
        noRun();
        due("an empty net: digest()", x);
        x.limit(0, 0, 1, 1, 0);
        start();
        add(1, 1, 1, 0);
        add(new long[17]);
        noRun();
        due("needed anew: digest()", x);
    }

    private static void noStates() {
        ClockZones x = new ClockZones();
        x.limit(0, 0, 1, 0, 0);
        x.explore(1);
        start();
        add(1, 1, 0, 0);
        add(new long[17]);
        noRun();
        due("no states: digest()", x);
    }

    private static void orderOfBounds() {
        Said.that("and bound() of all pairs x, y of 0 to 3 (y within x);");
        ClockZones x = new ClockZones();
        x.edge(0, 0, 1, 0, 2);
        x.guard(0, 2, 2, 7);
        x.limit(0, 0, 2, 1, 7);
        x.limit(0, 1, 1, 1, 3);
        x.explore(5);
        start();
        add(0, 0, 1, 0, 2, 1, 2, 2, 7);
        add(1, 2, 1, 7, 1, 1, 1, 3);
        add(new long[16]);
        add(0, 0, 0, -1, -1, -1, 0);
        add(1, 1, 1, 1, 15, 1, 1, 1, 15, 1, 1, 1, 15, 1, 1, 1);
        add(1, 0, 0, 0, 0, -1, 1);
        add(1, 1, -13, -13, 7, 1, -13, -13, 21, 15, 1, 1, 21, 15, 1, 1);
        noRun();
        due("order: digest()", x);
    }

    /** 120 states: a new object for each of them keeps to the calls that one is made for. */
    private static void allStates() {
        start();
        ClockZones all = Nets.walkers(6, 5, 4);
        for (int e = 0; e < 12; e++) {
            for (int what = 0; what <= 5; what++) {
                add(all.about(e, what));
            }
        }
        noLimits();
        for (int i = 0; i < 120; i++) {
            ClockZones x = Nets.walkers(6, 5, 4);
            x.explore(120);
            for (int what = 0; what <= 6; what++) {
                add(x.state(i, what));
            }
            for (int k = 0; k < 16; k++) {
                add(x.bound(i, k / 4, k % 4));
            }
        }
        noRun();
        all.explore(120);
        due("120 states: digest()", all);
    }

    private static void runs() {
        Said.that("1, if there is a RUN, else 0, and what run() tells for 0 to 8 but 3.");
        ClockZones x = new ClockZones();
        x.begin();
        start();
        noLimits();
        add(1, 0, 0, 0, 0, 0, 0, 0, 0);
        due("begun: digest()", x);
        x.pass(17);
        start();
        noLimits();
        add(1, 0, 0, 0, 17, 17, 17, 17, 0);
        due("passed: digest()", x);
        x.edge(1, 0, 5, 0, 4);
        start();
        add(1, 0, 5, 0, 4, 0);
        noLimits();
        noRun();
        due("gone: digest()", x);
        x.begin();
        x.pass(64000);
        x.move(0, NONE);
        x.pass(3);
        start();
        add(1, 0, 5, 0, 4, 0);
        noLimits();
        add(1, 0, 5, 0, 64003, 3, 64003, 64003, 1);
        due("moved: digest()", x);
    }
}
