import java.util.Random;

/** Promises 11 and 12: the way to a state and its earliest times. */
public final class WayTest {
    private static final int NONE = ClockZones.NONE;
    private static final int UNKNOWN = ClockZones.UNKNOWN;
    private static final int OUTSIDE = ClockZones.OUTSIDE;
    private static final int STATE = ClockZones.STATE;
    private static final int LEAST = Integer.MIN_VALUE;
    private static final int MOST = Integer.MAX_VALUE;

    public static void main(String[] args) {
        ways();
        sorts();
        waitsForALaterMove();
        limitsOnLeavingAndComing();
        manyBelows();
        refusals();
        for (int run = 0; run < 400 && !Due.isLost(); run++) {
            walked(run);
        }
        for (int run = 0; run < 1500 && !Due.isLost(); run++) {
            triedOut(run);
        }
        Due.done();
    }

    private static void ways() {
        ClockZones x = new ClockZones();
        x.edge(0, 0, 1, 2, 0);
        x.edge(1, 0, 1, -2, 0);
        x.edge(1, 1, 2, 0, 0);
        x.edge(0, 1, 2, -1, 0);
        x.edge(2, 0, 1, 1, 0);
        Due.be("ways: explore(120)", x.explore(120), 5);
        int i = x.reach(2, 2, 1);
        Due.be("ways: state(i, 6)", x.state(i, 6), 3);
        int[][] due = {{0, 1}, {2, NONE}, {4, 3}};
        for (int k = 0; k < 3; k++) {
            for (int which = 0; which < 2; which++) {
                Due.be("ways: way(i, " + k + ", " + which + ")", x.way(i, k, which), due[k][which]);
            }
            Due.be("ways: moment(i, " + k + ")", x.moment(i, k), 0);
        }
    }

    private static void sorts() {
        int[] due = {0, 0, 448, 448, 449};
        for (int sort = 0; sort <= 4; sort++) {
            ClockZones x = new ClockZones();
            x.edge(0, 0, 1, 0, 0);
            x.guard(0, 3, sort, 7);
            x.explore(9);
            Due.be("sort " + sort + ": moment(1, 0)", x.moment(1, 0), due[sort]);
        }
    }

    /** The first move could be at 0, but the second has to be soon behind it and late in all. */
    private static void waitsForALaterMove() {
        ClockZones x = new ClockZones();
        x.edge(0, 0, 1, 0, 2);
        x.edge(0, 1, 2, 0, 0);
        x.guard(1, 1, 1, 3);
        x.guard(1, 2, 3, 10);
        x.explore(9);
        Due.be("late: moment(1, 0)", x.moment(1, 0), 0);
        Due.be("late: moment(2, 0)", x.moment(2, 0), 448);
        Due.be("late: moment(2, 1)", x.moment(2, 1), 640);
        x.wipe();
        x.edge(0, 0, 1, 0, 2);
        x.edge(0, 1, 2, 0, 0);
        x.guard(1, 1, 0, 3);
        x.guard(1, 2, 4, 10);
        x.explore(9);
        Due.be("late and below: moment(2, 0)", x.moment(2, 0), 641 - 191);
        Due.be("late and below: moment(2, 1)", x.moment(2, 1), 641);
    }

    private static void limitsOnLeavingAndComing() {
        ClockZones x = new ClockZones();
        x.edge(0, 0, 1, 0, 2);
        x.edge(0, 1, 2, 0, 0);
        x.guard(1, 2, 2, 10);
        x.limit(0, 1, 1, 0, 2);
        x.explore(9);
        Due.be("leaving: moment(2, 0)", x.moment(2, 0), 640 - 127);
        Due.be("leaving: moment(2, 1)", x.moment(2, 1), 640);
        x.wipe();
        x.edge(0, 0, 1, 0, 2);
        x.edge(0, 1, 2, 0, 0);
        x.guard(1, 2, 2, 10);
        x.limit(0, 2, 1, 1, 3);
        x.explore(9);
        Due.be("coming: moment(2, 0)", x.moment(2, 0), 640 - 192);
        x.wipe();
        x.edge(0, 0, 1, 0, 2);
        x.edge(1, 0, 1, 0, 0);
        x.guard(1, 2, 2, 10);
        x.limit(0, 1, 1, 1, 4);
        x.explore(120);
        int i = x.reach(1, 1, 0);
        Due.be("another machine: way(i, 0, 0)", x.way(i, 0, 0), 0);
        Due.be("another machine: moment(i, 0)", x.moment(i, 0), 640 - 256);
        Due.be("another machine: moment(i, 1)", x.moment(i, 1), 640);
    }

    /** Forty times just above the move before, all within less than 1 of the whole. */
    private static void manyBelows() {
        ClockZones x = new ClockZones();
        x.edge(0, 0, 1, 0, 4);
        x.guard(0, 1, 0, 1);
        x.guard(0, 2, 4, 0);
        x.edge(0, 1, 0, 0, 4);
        x.guard(1, 1, 0, 1);
        x.guard(1, 2, 4, 0);
        x.limit(1, 0, 1, 0, 1);
        int all = x.explore(120);
        for (int i = 1; i < all; i++) {
            for (int k = 0; k < x.state(i, 6); k++) {
                Due.be("belows: moment(" + i + ", " + k + ")", x.moment(i, k), k + 1);
            }
        }
    }

    private static void refusals() {
        ClockZones x = new ClockZones();
        x.edge(0, 0, 1, 0, 0);
        Due.be("way(9, 9, 9) before", x.way(9, 9, 9), STATE);
        Due.be("moment(9, 9) before", x.moment(9, 9), STATE);
        x.explore(120);
        for (int bad : new int[] {-1, 2, LEAST, MOST}) {
            Due.be("way(" + bad + ", 0, 9)", x.way(bad, 0, 9), UNKNOWN);
            Due.be("moment(" + bad + ", 0)", x.moment(bad, 0), UNKNOWN);
            Due.be("way(1, 0, " + bad + ")", x.way(1, 0, bad), OUTSIDE);
        }
        for (int bad : new int[] {-1, 1, 40, LEAST, MOST}) {
            Due.be("way(1, " + bad + ", 9)", x.way(1, bad, 9), UNKNOWN);
            Due.be("moment(1, " + bad + ")", x.moment(1, bad), UNKNOWN);
        }
        Due.be("way(0, 0, 0)", x.way(0, 0, 0), UNKNOWN);
        Due.be("moment(0, 0)", x.moment(0, 0), UNKNOWN);
    }

    /** A random net; the model gets the same one, to walk many runs on. */
    private static PlainModel net(Random random, ClockZones x, int places, int most) {
        PlainModel model = new PlainModel();
        int edges = 3 + random.nextInt(9);
        for (int e = 0; e < edges; e++) {
            int m = random.nextInt(2), from = random.nextInt(Math.min(places, 1 + e / 3));
            int to = random.nextInt(places);
            int channel = random.nextInt(3) == 0 ? random.nextInt(3) - 1 : 0;
            int resets = 2 * (random.nextInt(8) & random.nextInt(8));
            x.edge(m, from, to, channel, resets);
            int edge = model.edge(m, from, to, channel, resets);
            for (int g = random.nextInt(3); g > 0; g--) {
                int clock = 1 + random.nextInt(3), sort = random.nextInt(5), c = random.nextInt(most + 1);
                x.guard(edge, clock, sort, c);
                model.guard(edge, clock, sort, c);
            }
        }
        for (int l = random.nextInt(4); l > 0; l--) {
            int m = random.nextInt(2), p = random.nextInt(places), clock = 1 + random.nextInt(3);
            int sort = random.nextInt(2), c = 1 + random.nextInt(most);
            x.limit(m, p, clock, sort, c);
            model.limit(m, p, clock, sort, c);
        }
        return model;
    }

    /** The times of every way are a run, and it ends within the zone of its state. */
    private static void walked(int run) {
        ClockZones x = new ClockZones();
        PlainModel model = net(new Random(run), x, 4, 9);
        int all = x.explore(120);
        all = all < 0 ? 120 : all;
        for (int i = 0; i < all; i++) {
            int steps = x.state(i, 6);
            int[] times = new int[steps];
            for (int k = 0; k < steps; k++) {
                times[k] = x.moment(i, k);
            }
            String name = "walked " + run + ": state " + i;
            Due.hold(name + ": its times are a run", isRun(model, x, i, times));
            Due.be(name + ": it ends within", x.has(i, model.run(4), model.run(5), model.run(6)), 1);
        }
    }

    private static boolean isRun(PlainModel model, ClockZones x, int i, int[] times) {
        if (model.begin() != 1) {
            return false;
        }
        int now = 0;
        for (int k = 0; k < times.length; k++) {
            if (times[k] < now || times[k] > now && model.pass(times[k] - now) != 1) {
                return false;
            }
            now = times[k];
            if (model.move(x.way(i, k, 0), x.way(i, k, 1)) != 1) {
                return false;
            }
        }
        return true;
    }

    /** Of short ways all times are tried: each moment is the least that any run has there. */
    private static void triedOut(int run) {
        ClockZones x = new ClockZones();
        PlainModel model = net(new Random(1000 + run), x, 3, 1);
        int all = Math.min(Math.abs(x.explore(12)), 12);
        for (int i = 0; i < all; i++) {
            if (x.state(i, 6) != 2 || i % 3 != run % 3) {
                continue;
            }
            int[] least = {MOST, MOST};
            int[] times = new int[2];
            // A clock is past all numbers behind 65 64ths of either wait.
            for (times[0] = 0; times[0] <= 66; times[0]++) {
                for (times[1] = times[0]; times[1] <= times[0] + 66; times[1]++) {
                    if (isRun(model, x, i, times)) {
                        least[0] = Math.min(least[0], times[0]);
                        least[1] = Math.min(least[1], times[1]);
                    }
                }
            }
            Due.be("tried " + run + ": moment(" + i + ", 0)", x.moment(i, 0), least[0]);
            Due.be("tried " + run + ": moment(" + i + ", 1)", x.moment(i, 1), least[1]);
        }
    }
}
