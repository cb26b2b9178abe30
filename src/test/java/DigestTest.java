/** Promise 21: the digest, told again by hand. */
public final class DigestTest {
    private static long h;

    public static void main(String[] args) {
        ClockZones x = new ClockZones();
        start();
        limits();
        noRun();
        Due.be("new: digest()", x.digest(), h);

        x.edge(1, 2, 3, -4, 14);
        x.edge(0, 0, 1, 0, 2);
        x.guard(1, 3, 4, 1000);
        x.guard(1, 1, 0, 7);
        x.limit(0, 0, 2, 1, 5);
        x.limit(2, 5, 1, 0, 0);
        x.limit(2, 5, 3, 1, 9);
        start();
        net();
        noRun();
        Due.be("told: digest()", x.digest(), h);

        x.begin();
        x.pass(17);
        start();
        net();
        add(1, 0, 0, 0, 17, 17, 17, 17, 0);
        Due.be("run: digest()", x.digest(), h);

        Due.be("explore(3)", x.explore(3), 1);
        start();
        net();
        add(0, 0, 0, -1, -1, -1, 0);
        add(1, 1, 1, 1, 11, 1, 1, 1, 11, 1, 1, 1, 11, 1, 1, 1);
        add(1, 0, 0, 0, 17, 17, 17, 17, 0);
        Due.be("explored: digest()", x.digest(), h);
        Due.be("digest() changes nothing", x.digest(), h);

        x.wipe();
        start();
        limits();
        noRun();
        Due.be("wiped: digest()", x.digest(), h);
        noStates();
        order();
        Due.done();
    }

    private static void start() {
        h = 71;
    }

    private static void add(long... numbers) {
        for (long number : numbers) {
            h = 31 * h + number;
        }
    }

    /** The limits of a net that has none. */
    private static void limits() {
        add(new long[18]);
    }

    private static void net() {
        add(1, 2, 3, -4, 14, 0);
        add(0, 0, 1, 0, 2, 2, 3, 4, 1000, 1, 0, 7);
        add(1, 2, 1, 5, 0, 0, 0, 0, 0);
        add(0, 0, 0, 0, 0, 0);
        add(0, 0, 0, 0, 0, 2, 1, 0, 0, 3, 1, 9);
    }

    /** Without a run, run() tells STATE. */
    private static void noRun() {
        add(0, -103, -103, -103, -103, -103, -103, -103, -103);
    }

    private static void noStates() {
        ClockZones x = new ClockZones();
        x.limit(0, 0, 1, 0, 0);
        x.explore(1);
        start();
        add(1, 1, 0, 0);
        add(new long[17]);
        noRun();
        Due.be("no states: digest()", x.digest(), h);
    }

    /** Of a state with bounds that differ, y goes within x. */
    private static void order() {
        ClockZones x = new ClockZones();
        x.edge(0, 0, 1, 0, 2);
        x.guard(0, 2, 2, 7);
        x.limit(0, 0, 2, 1, 7);
        x.limit(0, 1, 1, 1, 3);
        x.explore(5);
        start();
        add(0, 0, 1, 0, 2, 1, 2, 2, 7);
        add(1, 2, 1, 7, 1, 1, 1, 3);
        add(new long[16]);
        add(0, 0, 0, -1, -1, -1, 0);
        add(1, 1, 1, 1, 15, 1, 1, 1, 15, 1, 1, 1, 15, 1, 1, 1);
        add(1, 0, 0, 0, 0, -1, 1);
        add(1, 1, -13, -13, 7, 1, -13, -13, 21, 15, 1, 1, 21, 15, 1, 1);
        noRun();
        Due.be("order: digest()", x.digest(), h);
    }
}
