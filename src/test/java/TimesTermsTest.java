import java.util.Arrays;

/** The terms of part 3: ways, their times, refusals, and what each kind of call leaves alone. */
public final class TimesTermsTest {
    private static final int NONE = ClockZones.NONE;
    private static final int UNKNOWN = ClockZones.UNKNOWN;
    private static final int OUTSIDE = ClockZones.OUTSIDE;
    private static final int STATE = ClockZones.STATE;
    private static final int FULL = ClockZones.FULL;

    public static void main(String[] args) {
        Said.in("Terms", 3);
        ways();
        earliest();
        belowAndAbove();
        fortyAboves();
        leastInAnyRun();
        limitsOnLeavingAndComing();
        setBackOnTheWay();
        lateAllTheWayBack();
        allTestsOnTheLongestWay();
        lastLimitOfTheLongestWay();
        longestWay();
        firstRefusals();
        unknown();
        outside();
        stateAndFull();
        nothingChanges();
        whatATellingForgets();
        whatARefusedTellingKeeps();
        whatExploringLeaves();
        whatARunLeaves();
        whatIsToldLeavesAll();
        Said.done();
    }

    // ---- ways and times

    private static void ways() {
        Said.that("THE WAY to a STATE are the MOVES by which it was met.");
        ClockZones x = Nets.walkers(3, 2, 1);
        Due.be("explore(9)", x.explore(9), 6);
        int[][] due = {{}, {0}, {2}, {0, 1}, {0, 2}, {0, 1, 2}};
        for (int i = 0; i < 6; i++) {
            Due.be("moves of state " + i, x.state(i, 6), due[i].length);
            for (int k = 0; k < due[i].length; k++) {
                Due.be("way(" + i + ", " + k + ", 0)", x.way(i, k, 0), due[i][k]);
                Due.be("way(" + i + ", " + k + ", 1)", x.way(i, k, 1), NONE);
            }
            Due.be("one more", x.way(i, due[i].length, 0), UNKNOWN);
        }
    }

    private static void earliest() {
        Said.that("TIMES of it: of each MOVE the earliest moment (in 64ths),");
        for (int c : new int[] {0, 1, 7, 1000}) {
            int[] due = {0, 0, 64 * c, 64 * c, 64 * c + 1};
            for (int sort = 0; sort <= 4; sort++) {
                ClockZones x = new ClockZones();
                x.edge(0, 0, 1, 0, 0);
                x.guard(0, 3, sort, c);
                boolean never = sort == 0 && c == 0;
                Due.be("explore(9)", x.explore(9), never ? 1 : 2);
                Due.be("sort " + sort + " of " + c, x.moment(1, 0), never ? UNKNOWN : due[sort]);
            }
        }
    }

    private static void belowAndAbove() {
        Said.that("so that all of them together are a RUN in which what has to be below is 1 / 64 below at least,"
            + " what has to be above is 1 / 64 above:");
        int[][] sorts = {{1, 3, 640 - 192}, {0, 3, 640 - 191}, {1, 4, 641 - 192}, {0, 4, 641 - 191}};
        for (int[] s : sorts) {
            ClockZones x = new ClockZones();
            x.edge(0, 0, 1, 0, 2);
            x.edge(0, 1, 2, 0, 0);
            x.guard(1, 1, s[0], 3);
            x.guard(1, 2, s[1], 10);
            x.explore(9);
            String name = "sorts " + s[0] + " and " + s[1] + ": ";
            Due.be(name + "alone it would be at once", x.moment(1, 0), 0);
            Due.be(name + "it waits for the other", x.moment(2, 0), s[2]);
            Due.be(name + "the other", x.moment(2, 1), s[1] == 4 ? 641 : 640);
        }
    }

    /** The most that may have to be above one another, all below 1: they are a run just so. */
    private static void fortyAboves() {
        ClockZones x = new ClockZones();
        for (int p = 0; p < 5; p++) {
            x.guard(x.edge(0, p, p + 1, 0, 2), 1, 4, 0);
            x.edge(1, p, p + 1, -1, 0);
            x.edge(2, p, p + 1, -2, 0);
        }
        x.guard(x.edge(0, 5, 0, 1, 2), 1, 4, 0);
        x.guard(x.edge(1, 5, 5, 2, 2), 1, 4, 0);
        for (int p = 0; p < 6; p++) {
            x.limit(2, p, 2, 0, 1);
        }
        x.explore(120);
        int last = x.reach(5, 5, 5);
        Due.be("forty moves", x.state(last, 6), 40);
        for (int k = 0; k < 40; k++) {
            Due.be("moment(last, " + k + ")", x.moment(last, k), k + 1);
        }
    }

    private static void leastInAnyRun() {
        Said.that("each of them is the least that it is in any such RUN");
        ClockZones x = new ClockZones();
        x.edge(0, 0, 1, 0, 2);
        x.edge(0, 1, 2, 0, 4);
        x.edge(0, 2, 3, 0, 0);
        x.guard(1, 1, 3, 2);
        x.guard(2, 2, 1, 1);
        x.guard(2, 1, 3, 5);
        Due.be("explore(9)", x.explore(9), 4);
        int[][] due = {{}, {0}, {0, 128}, {0, 256, 320}};
        for (int i = 0; i < 4; i++) {
            for (int k = 0; k < due[i].length; k++) {
                Due.be("moment(" + i + ", " + k + ")", x.moment(i, k), due[i][k]);
            }
        }
    }

    private static void limitsOnLeavingAndComing() {
        ClockZones x = new ClockZones();
        x.edge(0, 0, 1, 0, 2);
        x.edge(0, 1, 2, 0, 0);
        x.guard(1, 2, 2, 10);
        x.limit(0, 1, 1, 0, 2);
        x.explore(9);
        Due.be("leaving: moment(2, 0)", x.moment(2, 0), 640 - 127);
        Due.be("leaving: moment(2, 1)", x.moment(2, 1), 640);
        x.wipe();
        x.edge(0, 0, 1, 0, 2);
        x.edge(0, 1, 2, 0, 0);
        x.guard(1, 2, 2, 10);
        x.limit(0, 2, 1, 1, 3);
        x.explore(9);
        Due.be("coming: moment(2, 0)", x.moment(2, 0), 640 - 192);
        x.wipe();
        x.edge(0, 0, 1, 0, 2);
        x.edge(1, 0, 1, 0, 0);
        x.guard(1, 2, 2, 10);
        x.limit(0, 1, 1, 1, 4);
        x.explore(120);
        int i = x.reach(1, 1, 0);
        Due.be("another machine: way(i, 0, 0)", x.way(i, 0, 0), 0);
        Due.be("another machine: moment(i, 0)", x.moment(i, 0), 640 - 256);
        Due.be("another machine: moment(i, 1)", x.moment(i, 1), 640);
    }

    /** A limit of the place that it comes to is asked of clocks that are set to 0 already. */
    private static void setBackOnTheWay() {
        ClockZones x = new ClockZones();
        x.edge(0, 0, 1, 1, 2);
        x.edge(1, 0, 1, -1, 4);
        x.guard(0, 2, 4, 3);
        x.guard(1, 1, 3, 5);
        x.limit(0, 1, 1, 1, 0);
        x.limit(1, 1, 2, 1, 0);
        x.edge(0, 1, 2, 0, 0);
        x.guard(2, 3, 1, 5);
        Due.be("explore(9)", x.explore(9), 3);
        Due.be("two at once: moment(2, 0)", x.moment(2, 0), 320);
        Due.be("no time is left: moment(2, 1)", x.moment(2, 1), 320);
    }

    /** Each move is 1 at most behind the one ahead, and the last of forty is above 39. */
    private static void lateAllTheWayBack() {
        ClockZones x = new ClockZones();
        x.edge(0, 0, 0, 0, 2);
        x.guard(0, 1, 1, 1);
        x.edge(1, 0, 1, 0, 0);
        x.guard(1, 1, 1, 1);
        x.guard(1, 2, 4, 39);
        Due.be("late: explore(120)", x.explore(120), 42);
        Due.be("late: reach(0, 1, 0)", x.reach(0, 1, 0), 41);
        for (int k = 0; k < 40; k++) {
            Due.be("late: moment(41, " + k + ")", x.moment(41, k), 64 * k + 1);
            Due.be("not late: moment(40, " + k + ")", x.moment(40, k), 0);
        }
    }

    /** Forty moves of two at once, with all guards and all limits that there may be. */
    private static void allTestsOnTheLongestWay() {
        ClockZones x = new ClockZones();
        for (int m = 0; m < 2; m++) {
            x.edge(m, 0, 0, m == 0 ? 1 : -1, 2);
            x.guard(m, 1, 2, 1);
            x.guard(m, 1, 2, 1);
        }
        for (int m = 0; m < 3; m++) {
            x.limit(m, 0, 1, 1, 1);
            x.limit(m, 0, 1, 1, 1);
        }
        x.limit(2, 5, 2, 1, 1000);
        Due.be("all tests: explore(120)", x.explore(120), 41);
        for (int k = 0; k < 40; k++) {
            Due.be("all tests: moment(40, " + k + ")", x.moment(40, k), 64 * (k + 1));
        }
    }

    private static void twice(ClockZones x, int e, int clock, int sort, int c) {
        x.guard(e, clock, sort, c);
        x.guard(e, clock, sort, c);
    }

    /**
     * Behind 38 moves with all tests that there may be, the 39th sets clock 3 back, the 40th is 5
     * behind the 38th, and the last limit of all has clock 3 at most 1: so the 39th has to wait.
     */
    private static void lastLimitOfTheLongestWay() {
        ClockZones x = new ClockZones();
        twice(x, x.edge(0, 0, 0, 1, 2), 1, 2, 1);
        twice(x, x.edge(1, 0, 0, -1, 0), 1, 2, 1);
        twice(x, x.edge(0, 0, 1, 2, 8), 1, 1, 5);
        twice(x, x.edge(1, 0, 1, -2, 0), 1, 1, 5);
        twice(x, x.edge(0, 1, 2, 3, 0), 1, 2, 5);
        twice(x, x.edge(2, 0, 1, -3, 0), 1, 2, 5);
        int[][] limits = {{0, 0, 1, 10}, {1, 0, 1, 10}, {2, 0, 1, 10}, {0, 1, 1, 10}, {1, 1, 1, 10},
            {0, 2, 1, 10}, {2, 1, 3, 1}};
        for (int[] l : limits) {
            x.limit(l[0], l[1], l[2], 1, l[3]);
            x.limit(l[0], l[1], l[2], 1, l[3]);
        }
        x.limit(0, 5, 2, 1, 1000);
        Due.be("last limit: explore(120)", x.explore(120), 120);
        Due.be("last limit: state(119, 0)", x.state(119, 0), 2);
        Due.be("last limit: state(119, 6)", x.state(119, 6), 40);
        for (int k = 0; k < 38; k++) {
            Due.be("last limit: moment(119, " + k + ")", x.moment(119, k), 64 * (k + 1));
        }
        Due.be("last limit: moment(119, 38)", x.moment(119, 38), 64 * 42);
        Due.be("last limit: moment(119, 39)", x.moment(119, 39), 64 * 43);
    }

    private static void longestWay() {
        Said.that("(WAYS have 40 MOVES at most, else the STATE is not met).");
        ClockZones x = Nets.chain();
        Due.be("explore(120)", x.explore(120), 41);
        Due.be("explore(41)", x.explore(41), 41);
        Due.be("explore(40)", x.explore(40), -41);
        Due.be("explore(120)", x.explore(120), 41);
        Due.be("state(40, 6)", x.state(40, 6), 40);
        Due.be("state(41, 6)", x.state(41, 6), UNKNOWN);
        Due.be("bound(40, 2, 1)", x.bound(40, 2, 1), 81);
        x.begin();
        for (int i = 0; i < 41; i++) {
            x.pass(64);
            Due.be("a run goes on: move " + i, x.move(0, NONE), 1);
            Due.be("it is here", x.here(), i < 40 ? i + 1 : NONE);
        }
        x.edge(1, 0, 1, 0, 0);
        Due.be("others are met beside it", x.explore(120), 81);
        Due.be("one more than 40 is not", x.reach(0, 1, 0), 2);
        int longest = 0;
        for (int i = 0; i < 81; i++) {
            longest = Math.max(longest, x.state(i, 6));
        }
        Due.be("none is longer", longest, 40);
    }

    // ---- refusals

    private static void firstRefusals() {
        Said.that("Refusals, of several the first as told by each call:");
        ClockZones x = Nets.full();
        Due.be("edge: UNKNOWN, OUTSIDE, FULL", x.edge(3, 0, 0, 5, 0), UNKNOWN);
        Due.be("edge: OUTSIDE, FULL", x.edge(2, 0, 0, 5, 0), OUTSIDE);
        Due.be("edge: FULL", x.edge(2, 0, 0, 4, 0), FULL);
        Due.be("guard: UNKNOWN, OUTSIDE, FULL", x.guard(0, 0, 5, 0), UNKNOWN);
        Due.be("guard: OUTSIDE, FULL", x.guard(0, 1, 5, 0), OUTSIDE);
        Due.be("limit: UNKNOWN, OUTSIDE, FULL", x.limit(0, 0, 0, 2, 0), UNKNOWN);
        Due.be("limit: OUTSIDE, FULL", x.limit(0, 0, 1, 2, 0), OUTSIDE);
        Due.be("explore: OUTSIDE, FULL", x.explore(121), OUTSIDE);
        Due.be("state: UNKNOWN, OUTSIDE", x.state(1, 7), UNKNOWN);
        Due.be("has: UNKNOWN, OUTSIDE", x.has(1, -1, 0, 0), UNKNOWN);
        Due.be("way: UNKNOWN, OUTSIDE", x.way(0, 0, 2), UNKNOWN);
        Due.be("move: UNKNOWN, OUTSIDE", x.move(20, 0), UNKNOWN);
        Due.be("about: UNKNOWN, OUTSIDE", x.about(20, 6), UNKNOWN);
        x.wipe();
        Due.be("state: STATE, UNKNOWN, OUTSIDE", x.state(1, 7), STATE);
        Due.be("bound: STATE, UNKNOWN", x.bound(1, 4, 4), 100001);
        Due.be("reach: STATE, OUTSIDE", x.reach(6, 6, 6), STATE);
        Due.be("has: STATE, UNKNOWN, OUTSIDE", x.has(1, -1, 0, 0), STATE);
        Due.be("way: STATE, UNKNOWN, OUTSIDE", x.way(0, 0, 2), STATE);
        Due.be("moment: STATE, UNKNOWN", x.moment(0, 0), STATE);
        Due.be("pass: OUTSIDE, STATE", x.pass(0), OUTSIDE);
        Due.be("move: UNKNOWN, STATE", x.move(0, 0), UNKNOWN);
        Due.be("run: STATE, OUTSIDE", x.run(9), STATE);
        x.edge(0, 0, 0, 1, 0);
        Due.be("move: OUTSIDE, STATE", x.move(0, 0), OUTSIDE);
    }

    private static void unknown() {
        Said.that("UNKNOWN (no such MACHINE, PLACE, CLOCK, EDGE, STATE),");
        ClockZones x = Nets.explored();
        Due.be("no such machine", x.edge(3, 0, 0, 0, 0), UNKNOWN);
        Due.be("no such place", x.edge(0, 6, 0, 0, 0), UNKNOWN);
        Due.be("no such clock", x.greatest(4), UNKNOWN);
        Due.be("clock 0 is none to tell of", x.greatest(0), UNKNOWN);
        Due.be("no such edge", x.guard(4, 1, 1, 1), UNKNOWN);
        Due.be("no such state", x.state(x.count(3), 0), UNKNOWN);
    }

    private static void outside() {
        Said.that("OUTSIDE (a number is not as told),");
        ClockZones x = Nets.explored();
        Due.be("a channel", x.edge(0, 0, 0, -5, 0), OUTSIDE);
        Due.be("resets", x.edge(0, 0, 0, 0, 16), OUTSIDE);
        Due.be("a sort", x.guard(0, 1, 5, 0), OUTSIDE);
        Due.be("a number", x.guard(0, 1, 4, 1001), OUTSIDE);
        Due.be("how many states", x.explore(121), OUTSIDE);
        Due.be("a place that is asked for", x.reach(6, 0, 0), OUTSIDE);
        Due.be("an amount", x.has(0, 1000001, 0, 0), OUTSIDE);
        Due.be("how long", x.pass(64001), OUTSIDE);
        Due.be("two edges", x.move(0, 1), OUTSIDE);
        Due.be("what is counted", x.count(7), OUTSIDE);
    }

    private static void stateAndFull() {
        Said.that("STATE (explore() is needed first, or the RUN does not allow it), FULL;");
        ClockZones x = Nets.told();
        Due.be("explore() is needed first", x.reach(-1, -1, -1), STATE);
        Due.be("there is no run", x.pass(1), STATE);
        x.begin();
        Due.be("a run allows it", x.pass(1), 1);
        Due.be("explore() is needed still", x.here(), STATE);
        x.explore(120);
        Due.be("both are there", x.here(), 0);
        x = Nets.full();
        Due.be("edges", x.edge(0, 0, 0, 0, 0), FULL);
        Due.be("guards", x.guard(0, 1, 1, 1), FULL);
        Due.be("limits", x.limit(0, 0, 1, 1, 1), FULL);
        Due.be("explore()", x.explore(1), FULL);
    }

    private static void nothingChanges() {
        Said.that("they change nothing.");
        for (ClockZones x : new ClockZones[] {new ClockZones(), Nets.told(), Nets.explored(),
            Nets.walked(), Nets.exploredAndWalked(), Nets.full()}) {
            long[] before = Refusals.picture(x);
            firstOfEach(x);
            Due.hold("refused: " + Arrays.toString(before),
                Arrays.equals(Refusals.picture(x), before));
        }
    }

    /** One refused call of every kind. */
    private static void firstOfEach(ClockZones x) {
        int edges = x.count(0), states = x.count(3);
        x.edge(3, 0, 0, 0, 0);
        x.edge(0, 0, 6, 0, 0);
        x.edge(0, 0, 0, 5, 0);
        x.edge(0, 0, 0, 0, 1);
        x.guard(edges, 1, 1, 1);
        x.guard(0, 4, 1, 1);
        x.guard(0, 1, 5, 1);
        x.guard(0, 1, 1, 1001);
        x.limit(0, 0, 0, 0, 0);
        x.limit(0, 0, 1, 2, 0);
        x.limit(0, 0, 1, 1, -1);
        x.explore(0);
        x.explore(121);
        x.state(states, 0);
        x.bound(states, 0, 0);
        x.reach(-2, 0, 0);
        x.has(states, 0, 0, 0);
        x.way(states, 0, 0);
        x.moment(states, 0);
        x.greatest(0);
        x.pass(0);
        x.pass(64001);
        x.move(edges, NONE);
        x.move(0, 0);
        x.run(3);
        x.about(edges, 0);
        x.count(7);
    }

    // ---- what the kinds of calls do

    private static void isForgotten(String what, ClockZones x) {
        Due.be(what + ": explore() is needed", x.count(5), 1);
        Due.be(what + ": no states", x.count(3), 0);
        Due.be(what + ": state(0, 0)", x.state(0, 0), STATE);
        Due.be(what + ": bound(0, 0, 0)", x.bound(0, 0, 0), 100001);
        Due.be(what + ": reach(0, 0, 0)", x.reach(0, 0, 0), STATE);
        Due.be(what + ": has(0, 0, 0, 0)", x.has(0, 0, 0, 0), STATE);
        Due.be(what + ": way(1, 0, 0)", x.way(1, 0, 0), STATE);
        Due.be(what + ": moment(1, 0)", x.moment(1, 0), STATE);
        Due.be(what + ": run(0)", x.run(0), STATE);
        Due.be(what + ": pass(1)", x.pass(1), STATE);
        Due.be(what + ": here()", x.here(), STATE);
        Due.be(what + ": it was done", x.count(6), 1);
    }

    private static void whatATellingForgets() {
        Said.that("Ahead of the calls `edge`, `guard`, `limit`, `wipe` the interface says: ---- the net: whatever"
            + " is told of it, explore() is needed anew, and a RUN is gone.");
        ClockZones x = Nets.exploredAndWalked();
        x.edge(0, 5, 5, 0, 0);
        isForgotten("edge()", x);
        x = Nets.exploredAndWalked();
        x.guard(0, 1, 3, 0);
        isForgotten("guard()", x);
        x = Nets.exploredAndWalked();
        x.limit(2, 5, 1, 1, 9);
        isForgotten("limit()", x);
        x = Nets.exploredAndWalked();
        x.wipe();
        isForgotten("wipe()", x);
        x = new ClockZones();
        x.explore(1);
        x.begin();
        x.wipe();
        isForgotten("wipe() of nothing", x);
    }

    private static void whatARefusedTellingKeeps() {
        ClockZones x = Nets.full();
        x.pass(5);
        x.edge(0, 0, 0, 0, 0);
        x.guard(0, 1, 1, 1);
        x.limit(0, 0, 1, 1, 1);
        Due.be("full: states stay", x.count(3), 1);
        Due.be("full: explore() is not needed", x.count(5), 0);
        Due.be("full: the run stays", x.run(7), 5);
        Due.be("full: here()", x.here(), 0);
    }

    private static long[] net(ClockZones x) {
        return new long[] {x.count(0), x.count(1), x.count(2), x.count(4), x.greatest(1), x.greatest(2),
            x.greatest(3), x.about(0, 2), x.about(3, 4), x.about(2, 5)};
    }

    private static void whatExploringLeaves() {
        Said.that("Ahead of the calls `explore`, `state`, `bound`, `reach`, `has`, `way`, `moment`, `greatest`"
            + " the interface says: ---- all that can be reached.");
        ClockZones x = Nets.walked();
        long[] net = net(x);
        x.explore(3);
        x.explore(120);
        Due.hold("the net is left", Arrays.equals(net(x), net));
        Due.be("a run is left: run(0)", x.run(0), 1);
        Due.be("a run is left: run(4)", x.run(4), 7);
        Due.be("a run is left: run(7)", x.run(7), 71);
        long[] before = Refusals.picture(x);
        int last = x.count(3) - 1;
        x.state(last, 6);
        x.bound(last, 1, 2);
        x.reach(0, 0, 0);
        x.has(last, 1, 2, 3);
        x.way(last, 0, 0);
        x.moment(last, 0);
        x.greatest(1);
        Due.hold("what is asked changes nothing", Arrays.equals(Refusals.picture(x), before));
    }

    private static void whatARunLeaves() {
        Said.that("Ahead of the calls `begin`, `pass`, `move`, `run`, `here` the interface says: ---- a run.");
        ClockZones x = Nets.explored();
        long[] net = net(x);
        int states = x.count(3), steps = x.state(states - 1, 6), bound = x.bound(states - 1, 2, 1);
        x.begin();
        x.pass(64);
        x.move(0, NONE);
        x.move(1, 2);
        x.here();
        Due.be("a run", x.run(8), 2);
        Due.hold("the net is left", Arrays.equals(net(x), net));
        Due.be("states are left: count(3)", x.count(3), states);
        Due.be("states are left: state", x.state(states - 1, 6), steps);
        Due.be("states are left: bound", x.bound(states - 1, 2, 1), bound);
        Due.be("explore() is not needed", x.count(5), 0);
        Due.be("it was done once", x.count(6), 1);
    }

    private static void whatIsToldLeavesAll() {
        Said.that("Ahead of the calls `about`, `count`, `digest` the interface says: ---- what is told.");
        ClockZones x = Nets.exploredAndWalked();
        long[] before = Refusals.picture(x);
        for (int what = -1; what <= 7; what++) {
            x.about(0, what);
            x.count(what);
            x.digest();
        }
        Due.hold("all is left", Arrays.equals(Refusals.picture(x), before));
    }
}
