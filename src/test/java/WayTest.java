import java.util.Random;

/** Promises 11 and 12: the way to a state and its earliest times. */
public final class WayTest {
    private static final int NONE = ClockZones.NONE;
    private static final int UNKNOWN = ClockZones.UNKNOWN;
    private static final int OUTSIDE = ClockZones.OUTSIDE;
    private static final int STATE = ClockZones.STATE;
    private static final int LEAST = Integer.MIN_VALUE;
    private static final int MOST = Integer.MAX_VALUE;

    public static void main(String[] args) {
        Said.in("Promise 11: way");
        ways();
        longestWay();
        wayRefusals();
        Said.in("Promise 12: moment");
        moments();
        momentsOfTheLongestWay();
        momentRefusals();
        Said.that("TIME k of THE WAY to a STATE.");
        for (int run = 0; run < 400 && !Due.isLost(); run++) {
            walked(run);
        }
        for (int run = 0; run < 1500 && !Due.isLost(); run++) {
            triedOut(run);
        }
        Said.done();
    }

    /** Three moves lead to its last state: two at once, one alone, two at once. */
    private static ClockZones three() {
        ClockZones x = new ClockZones();
        x.edge(0, 0, 1, 2, 0);
        x.edge(1, 0, 1, -2, 0);
        x.edge(1, 1, 2, 0, 0);
        x.edge(0, 1, 2, -1, 0);
        x.edge(2, 0, 1, 1, 0);
        x.guard(2, 1, 3, 4);
        x.explore(120);
        return x;
    }

    private static ClockZones stateless() {
        ClockZones x = new ClockZones();
        x.limit(0, 0, 1, 0, 0);
        x.explore(120);
        return x;
    }

    private static ClockZones longest() {
        ClockZones x = Nets.chain();
        x.explore(120);
        return x;
    }

    // ---- promise 11

    private static void ways() {
        Said.that("MOVE k (from 0) of THE WAY to a STATE: which = 0: e, 1: f (NONE).");
        ClockZones x = three();
        Due.be("count(3)", x.count(3), 5);
        int i = x.reach(2, 2, 1);
        Due.be("reach(2, 2, 1)", i, 4);
        Due.be("state(i, 6)", x.state(i, 6), 3);
        int[][] due = {{0, 1}, {2, NONE}, {4, 3}};
        for (int k = 0; k < 3; k++) {
            for (int which = 0; which < 2; which++) {
                Due.be("way(i, " + k + ", " + which + ")", x.way(i, k, which), due[k][which]);
            }
        }
        for (int j = 1; j < 5; j++) {
            int last = x.state(j, 6) - 1;
            Due.be("the last move of state " + j, x.way(j, last, 0), x.state(j, 4));
            Due.be("the last answer of state " + j, x.way(j, last, 1), x.state(j, 5));
        }
    }

    private static void longestWay() {
        ClockZones x = longest();
        for (int k = 0; k < 40; k++) {
            Due.be("longest: way(40, " + k + ", 0)", x.way(40, k, 0), 0);
            Due.be("longest: way(40, " + k + ", 1)", x.way(40, k, 1), NONE);
        }
        Due.be("longest: way(40, 40, 0)", x.way(40, 40, 0), UNKNOWN);
        Due.be("longest: way(39, 39, 0)", x.way(39, 39, 0), UNKNOWN);
        Due.be("longest: way(39, 38, 0)", x.way(39, 38, 0), 0);
    }

    private static void wayRefusals() {
        Refusals.Call way = (x, a) -> x.way(a[0], a[1], a[2]);
        int[] which = Refusals.around(0, 1), moves = Refusals.around(0, 39);
        int[] states = Refusals.around(0, 119);
        Said.that("STATE;");
        Refusals.all("new: way", ClockZones::new, way, a -> STATE, states, moves, which);
        Refusals.all("walked: way", Nets::walked, way, a -> STATE, states, moves, which);
        Said.that("UNKNOWN: i, k;");
        Refusals.all("none: way", WayTest::stateless, way, a -> UNKNOWN, states, moves, which);
        Refusals.all("state 0: way", WayTest::three, way, a -> UNKNOWN,
            new int[] {0, -1, 5}, Refusals.around(0, 2), which);
        Said.that("OUTSIDE: which.");
        Refusals.all("way", WayTest::three, way, a -> !isStep(a, 4, 3) ? UNKNOWN
            : Refusals.in(a[2], 0, 1) ? Refusals.ALLOWED : OUTSIDE,
            new int[] {4, 5, -1, LEAST, MOST}, Refusals.around(0, 2), which);
        Refusals.all("longest: way", WayTest::longest, way, a -> !isStep(a, 40, 40) ? UNKNOWN
            : Refusals.in(a[2], 0, 1) ? Refusals.ALLOWED : OUTSIDE,
            new int[] {40, 41, -1, LEAST, MOST}, moves, which);
    }

    /** Whether the arguments are the last state of a net and a step of its way. */
    private static boolean isStep(int[] a, int last, int steps) {
        return a[0] == last && Refusals.in(a[1], 0, steps - 1);
    }

    // ---- promise 12

    private static void moments() {
        Said.that("TIME k of THE WAY to a STATE.");
        ClockZones x = three();
        int[][] due = {{1, 0, 0}, {2, 0, 0}, {2, 1, 256}, {4, 0, 0}, {4, 1, 256}, {4, 2, 256}};
        for (int[] d : due) {
            Due.be("moment(" + d[0] + ", " + d[1] + ")", x.moment(d[0], d[1]), d[2]);
        }
        Due.be("asked again: moment(1, 0)", x.moment(1, 0), 0);
        x = new ClockZones();
        x.edge(0, 0, 1, 0, 0);
        x.guard(0, 3, 4, 1000);
        x.explore(9);
        Due.be("above 1000: moment(1, 0)", x.moment(1, 0), 64001);
    }

    private static void momentsOfTheLongestWay() {
        ClockZones x = longest();
        for (int k = 0; k < 40; k++) {
            Due.be("longest: moment(40, " + k + ")", x.moment(40, k), 64 * (k + 1));
        }
        Due.be("longest: moment(40, 40)", x.moment(40, 40), UNKNOWN);
        x = latest();
        Due.be("latest: explore(120)", x.explore(120), 66);
        int last = x.reach(5, 5, 5);
        Due.be("latest: state(last, 6)", x.state(last, 6), 40);
        for (int k = 0; k < 40; k++) {
            Due.be("latest: moment(last, " + k + ")", x.moment(last, k), 64001 * (k + 1));
        }
    }

    /** Machine 0 counts, machine 1 its rounds; then machine 2 steps too: 40 moves, each above 1000. */
    private static ClockZones latest() {
        ClockZones x = new ClockZones();
        for (int p = 0; p < 5; p++) {
            x.guard(x.edge(0, p, p + 1, 0, 2), 1, 4, 1000);
            x.edge(1, p, p + 1, -1, 0);
            x.edge(2, p, p + 1, -2, 0);
        }
        x.guard(x.edge(0, 5, 0, 1, 2), 1, 4, 1000);
        x.guard(x.edge(1, 5, 5, 2, 2), 1, 4, 1000);
        return x;
    }

    private static void momentRefusals() {
        Refusals.Call moment = (x, a) -> x.moment(a[0], a[1]);
        int[] moves = Refusals.around(0, 39), states = Refusals.around(0, 119);
        Said.that("STATE;");
        Refusals.all("new: moment", ClockZones::new, moment, a -> STATE, states, moves);
        Refusals.all("walked: moment", Nets::walked, moment, a -> STATE, states, moves);
        Said.that("UNKNOWN: i, k.");
        Refusals.all("none: moment", WayTest::stateless, moment, a -> UNKNOWN, states, moves);
        Refusals.all("state 0: moment", WayTest::three, moment, a -> UNKNOWN,
            new int[] {0, -1, 5}, Refusals.around(0, 2));
        Refusals.all("moment", WayTest::three, moment,
            a -> isStep(a, 4, 3) ? Refusals.ALLOWED : UNKNOWN,
            new int[] {4, 5, -1, LEAST, MOST}, Refusals.around(0, 2));
        Refusals.all("longest: moment", WayTest::longest, moment,
            a -> isStep(a, 40, 40) ? Refusals.ALLOWED : UNKNOWN,
            new int[] {40, 41, -1, LEAST, MOST}, moves);
    }

    // ---- random nets

    /** A random net; the model gets the same one, to walk many runs on. */
    private static PlainModel net(Random random, Asked asked, int places, int most) {
        PlainModel model = new PlainModel();
        int edges = 3 + random.nextInt(9);
        for (int e = 0; e < edges; e++) {
            int m = random.nextInt(2), from = random.nextInt(Math.min(places, 1 + e / 3));
            int to = random.nextInt(places);
            int channel = random.nextInt(3) == 0 ? random.nextInt(3) - 1 : 0;
            int resets = 2 * (random.nextInt(8) & random.nextInt(8));
            asked.tell(x -> x.edge(m, from, to, channel, resets));
            int edge = model.edge(m, from, to, channel, resets);
            for (int g = random.nextInt(3); g > 0; g--) {
                int clock = 1 + random.nextInt(3), sort = random.nextInt(5), c = random.nextInt(most + 1);
                asked.tell(x -> x.guard(edge, clock, sort, c));
                model.guard(edge, clock, sort, c);
            }
        }
        for (int l = random.nextInt(4); l > 0; l--) {
            int m = random.nextInt(2), p = random.nextInt(places), clock = 1 + random.nextInt(3);
            int sort = random.nextInt(2), c = 1 + random.nextInt(most);
            asked.tell(x -> x.limit(m, p, clock, sort, c));
            model.limit(m, p, clock, sort, c);
        }
        return model;
    }

    /** The moves of the way to a state, as pairs of edges. */
    private static int[][] way(Asked asked, int i) {
        int[][] moves = new int[asked.ask(x -> x.state(i, 6))][2];
        for (int k = 0; k < moves.length; k++) {
            int step = k;
            moves[k][0] = asked.ask(x -> x.way(i, step, 0));
            moves[k][1] = asked.ask(x -> x.way(i, step, 1));
        }
        return moves;
    }

    /** The times of every way are a run, and it ends within the zone of its state. */
    private static void walked(int run) {
        Asked asked = new Asked();
        PlainModel model = net(new Random(run), asked, 4, 9);
        asked.tell(x -> x.explore(120));
        int all = asked.ask(x -> x.count(3));
        for (int state = 0; state < all; state++) {
            int i = state;
            int[][] moves = way(asked, i);
            int[] times = new int[moves.length];
            for (int k = 0; k < times.length; k++) {
                int step = k;
                times[k] = asked.ask(x -> x.moment(i, step));
            }
            String name = "walked " + run + ": state " + i;
            Due.hold(name + ": its times are a run", isRun(model, moves, times));
            Due.be(name + ": it ends within",
                asked.ask(x -> x.has(i, model.run(4), model.run(5), model.run(6))), 1);
        }
    }

    private static boolean isRun(PlainModel model, int[][] moves, int[] times) {
        if (model.begin() != 1) {
            return false;
        }
        int now = 0;
        for (int k = 0; k < times.length; k++) {
            if (times[k] < now || times[k] > now && model.pass(times[k] - now) != 1) {
                return false;
            }
            now = times[k];
            if (model.move(moves[k][0], moves[k][1]) != 1) {
                return false;
            }
        }
        return true;
    }

    /** Of short ways all times are tried: each moment is the least that any run has there. */
    private static void triedOut(int run) {
        Asked asked = new Asked();
        PlainModel model = net(new Random(1000 + run), asked, 3, 1);
        asked.tell(x -> x.explore(12));
        int all = asked.ask(x -> x.count(3));
        for (int state = run % 3; state < all; state += 3) {
            int i = state;
            int[][] moves = way(asked, i);
            if (moves.length != 2) {
                continue;
            }
            int[] least = {MOST, MOST};
            int[] times = new int[2];
            // A clock is past all numbers behind 65 64ths of either wait.
            for (times[0] = 0; times[0] <= 66; times[0]++) {
                for (times[1] = times[0]; times[1] <= times[0] + 66; times[1]++) {
                    if (isRun(model, moves, times)) {
                        least[0] = Math.min(least[0], times[0]);
                        least[1] = Math.min(least[1], times[1]);
                    }
                }
            }
            Due.be("tried " + run + ": moment(" + i + ", 0)", asked.ask(x -> x.moment(i, 0)), least[0]);
            Due.be("tried " + run + ": moment(" + i + ", 1)", asked.ask(x -> x.moment(i, 1)), least[1]);
        }
    }
}
