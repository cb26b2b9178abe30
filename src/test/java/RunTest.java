/** Promises 14 to 18: a run by hand. */
public final class RunTest {
    private static final int NONE = ClockZones.NONE;
    private static final int UNKNOWN = ClockZones.UNKNOWN;
    private static final int OUTSIDE = ClockZones.OUTSIDE;
    private static final int STATE = ClockZones.STATE;
    private static final int LEAST = Integer.MIN_VALUE;
    private static final int MOST = Integer.MAX_VALUE;

    public static void main(String[] args) {
        Said.in("Promise 14: begin");
        begins();
        noBeginning();
        Said.in("Promise 15: pass");
        passes();
        passesAgainstLimits();
        passRefusals();
        passesToTheMost();
        limitsFailAtTheMost();
        Said.in("Promise 16: move");
        moves();
        movesOfTwo();
        anotherPlace();
        guards();
        limitsBehind();
        moveUnknown();
        moveOutside();
        moveWithoutARun();
        Said.in("Promise 17: run");
        whatIsTold();
        runRefusals();
        Said.in("Promise 18: here");
        here();
        hereInNone();
        hereRefusals();
        Said.done();
    }

    private static void amounts(String name, ClockZones x, int... due) {
        int[] what = {0, 1, 2, 4, 5, 6, 7, 8};
        for (int i = 0; i < what.length; i++) {
            Due.be(name + ": run(" + what[i] + ")", x.run(what[i]), due[i]);
        }
    }

    // ---- promise 14

    private static void begins() {
        Said.that("A RUN begins: 1;");
        ClockZones x = new ClockZones();
        Due.be("begin()", x.begin(), 1);
        amounts("begun", x, 0, 0, 0, 0, 0, 0, 0, 0);
        x.edge(1, 0, 2, 0, 4);
        Due.be("gone: run(0)", x.run(0), STATE);
        Due.be("begin()", x.begin(), 1);
        x.pass(9);
        x.move(0, NONE);
        amounts("moved", x, 0, 2, 0, 9, 0, 9, 9, 1);
        Due.be("begin() anew", x.begin(), 1);
        amounts("begun anew", x, 0, 0, 0, 0, 0, 0, 0, 0);
        Due.be("begin() needs no explore()", x.count(5), 1);
        x.explore(120);
        Due.be("explored: begin()", x.begin(), 1);
        Due.be("begin() leaves the states", x.count(3), 2);
        Due.be("full: begin()", Nets.full().begin(), 1);
    }

    private static void noBeginning() {
        Said.that("0: LIMITS do not hold (then there is none).");
        for (int m = 0; m < 3; m++) {
            for (int clock = 1; clock <= 3; clock++) {
                ClockZones x = new ClockZones();
                x.limit(m, 0, clock, 0, 0);
                Due.be("below 0: begin()", x.begin(), 0);
                Due.be("below 0: run(8)", x.run(8), STATE);
                Due.be("below 0: pass(1)", x.pass(1), STATE);
                Due.be("below 0: here()", x.here(), STATE);
                x.wipe();
                x.limit(m, 0, clock, 1, 0);
                x.limit(m, 0, clock, 0, 1);
                x.limit(m, 1, clock, 0, 0);
                Due.be("at most 0, below 1: begin()", x.begin(), 1);
                x.wipe();
                x.limit(m, 0, clock, 1, 9);
                x.limit(m, 0, clock, 0, 0);
                Due.be("one of two fails: begin()", x.begin(), 0);
            }
        }
    }

    // ---- promise 15

    private static void passes() {
        Said.that("So many 64ths go by (1 to 64000): 1;");
        ClockZones x = new ClockZones();
        x.begin();
        Due.be("pass(1)", x.pass(1), 1);
        amounts("passed", x, 0, 0, 0, 1, 1, 1, 1, 0);
        Due.be("pass(64000)", x.pass(64000), 1);
        amounts("passed", x, 0, 0, 0, 64001, 64001, 64001, 64001, 0);
        for (int bad : new int[] {0, -1, 64001, LEAST, MOST}) {
            Due.be("pass(" + bad + ")", x.pass(bad), OUTSIDE);
        }
        amounts("passed", x, 0, 0, 0, 64001, 64001, 64001, 64001, 0);
    }

    private static void passesAgainstLimits() {
        Said.that("0: LIMITS would not hold then (nothing goes by).");
        ClockZones x = new ClockZones();
        x.limit(0, 0, 1, 1, 2);
        x.limit(2, 0, 3, 0, 2);
        x.begin();
        Due.be("pass(128) of below 2", x.pass(128), 0);
        amounts("nothing goes by", x, 0, 0, 0, 0, 0, 0, 0, 0);
        Due.be("pass(127)", x.pass(127), 1);
        Due.be("pass(1)", x.pass(1), 0);
        Due.be("pass(64000)", x.pass(64000), 0);
        amounts("nothing goes by", x, 0, 0, 0, 127, 127, 127, 127, 0);
        x.wipe();
        x.limit(0, 0, 1, 1, 2);
        x.begin();
        Due.be("pass(129) of at most 2", x.pass(129), 0);
        Due.be("pass(128) of at most 2", x.pass(128), 1);
        Due.be("pass(1)", x.pass(1), 0);
        x.wipe();
        x.limit(0, 0, 2, 1, 0);
        x.begin();
        Due.be("pass(1) of at most 0", x.pass(1), 0);
        x.wipe();
        x.limit(1, 0, 2, 1, 1000);
        x.begin();
        Due.be("pass(64000) of at most 1000", x.pass(64000), 1);
        Due.be("pass(1)", x.pass(1), 0);
        x.wipe();
        x.limit(0, 1, 1, 1, 0);
        x.begin();
        Due.be("limits of another place", x.pass(64000), 1);
    }

    private static int passDue(int[] a, int last) {
        return Refusals.in(a[0], 1, 64000) ? last : OUTSIDE;
    }

    private static void passRefusals() {
        Said.that("OUTSIDE;");
        Refusals.Call pass = (x, a) -> x.pass(a[0]);
        int[] n = Refusals.around(1, 64000);
        Refusals.all("walked: pass", Nets::walked, pass, a -> passDue(a, Refusals.ALLOWED), n);
        Refusals.all("full: pass", Nets::full, pass, a -> passDue(a, Refusals.ALLOWED), n);
        Said.that("STATE: there is no RUN,");
        Refusals.all("new: pass", ClockZones::new, pass, a -> passDue(a, STATE), n);
        Refusals.all("explored: pass", Nets::explored, pass, a -> passDue(a, STATE), n);
        Said.that("or a CLOCK would be above 1000000.");
        Refusals.all("at the most: pass", RunTest::atTheMost, pass, a -> passDue(a, STATE), n);
    }

    private static ClockZones atTheMost() {
        ClockZones x = new ClockZones();
        x.edge(0, 0, 0, 0, 14);
        x.edge(0, 0, 0, 0, 6);
        x.begin();
        for (int i = 0; i < 15; i++) {
            x.pass(64000);
        }
        x.pass(40000);
        return x;
    }

    private static void passesToTheMost() {
        ClockZones x = atTheMost();
        amounts("at the most", x, 0, 0, 0, 1000000, 1000000, 1000000, 1000000, 0);
        Due.be("pass(1)", x.pass(1), STATE);
        amounts("still at the most", x, 0, 0, 0, 1000000, 1000000, 1000000, 1000000, 0);
        Due.be("move(1, NONE)", x.move(1, NONE), 1);
        Due.be("one clock is still at the most", x.pass(1), STATE);
        Due.be("move(0, NONE)", x.move(0, NONE), 1);
        Due.be("pass(64000)", x.pass(64000), 1);
        amounts("all time is no clock", x, 0, 0, 0, 64000, 64000, 64000, 1064000, 2);
        for (int clock = 1; clock <= 3; clock++) {
            x = new ClockZones();
            x.edge(0, 0, 0, 0, 14 - (1 << clock));
            x.begin();
            for (int i = 0; i < 15; i++) {
                x.pass(64000);
                x.move(0, NONE);
            }
            Due.be("clock " + clock + " alone: pass(40001)", x.pass(40001), STATE);
            Due.be("clock " + clock + " alone: nothing goes by", x.run(3 + clock), 960000);
            Due.be("clock " + clock + " alone: pass(40000)", x.pass(40000), 1);
            Due.be("clock " + clock + " alone: run", x.run(3 + clock), 1000000);
        }
    }

    /** A refusal comes ahead of what the call would answer. */
    private static void limitsFailAtTheMost() {
        ClockZones x = new ClockZones();
        x.edge(0, 0, 0, 0, 2);
        x.limit(0, 0, 1, 1, 1000);
        x.begin();
        for (int i = 0; i < 14; i++) {
            x.pass(64000);
            x.move(0, NONE);
        }
        Due.be("up to the limit", x.pass(64000), 1);
        Due.be("limits fail and a clock is too great", x.pass(40001), STATE);
        Due.be("limits fail alone", x.pass(40000), 0);
    }

    // ---- promise 16

    private static void moves() {
        Said.that("A MOVE is done: 1;");
        ClockZones x = new ClockZones();
        x.edge(2, 0, 5, 0, 10);
        x.edge(2, 5, 0, 0, 0);
        x.begin();
        x.pass(10);
        Due.be("move(0, NONE)", x.move(0, NONE), 1);
        amounts("moved", x, 0, 0, 5, 0, 10, 0, 10, 1);
        Due.be("back", x.move(1, NONE), 1);
        amounts("moved back", x, 0, 0, 0, 0, 10, 0, 10, 2);
        ClockZones full = Nets.full();
        for (int e = 0; e < 20; e += 2) {
            for (int f = 1; f < 20; f += 2) {
                Due.be("full: move(" + e + ", " + f + ")", full.move(e, f), 1);
            }
        }
        Due.be("full: run(8)", full.run(8), 100);
    }

    private static void movesOfTwo() {
        ClockZones x = new ClockZones();
        x.edge(0, 0, 1, 4, 2);
        x.edge(2, 0, 3, -4, 8);
        x.guard(0, 3, 2, 2);
        x.guard(1, 1, 2, 2);
        x.begin();
        x.pass(128);
        Due.be("each looks at the clock that the other sets back", x.move(0, 1), 1);
        amounts("both moved", x, 1, 0, 3, 0, 128, 0, 128, 1);
    }

    private static void anotherPlace() {
        Said.that("0: it is not open (another PLACE,");
        ClockZones x = new ClockZones();
        x.edge(0, 0, 1, 4, 2);
        x.edge(2, 1, 3, -4, 8);
        x.edge(1, 1, 0, 0, 0);
        x.edge(0, 1, 2, 4, 0);
        x.edge(2, 0, 3, -4, 8);
        x.begin();
        x.pass(5);
        Due.be("alone", x.move(2, NONE), 0);
        Due.be("of the call", x.move(3, 4), 0);
        Due.be("of the answer", x.move(0, 1), 0);
        Due.be("of both", x.move(3, 1), 0);
        amounts("not moved", x, 0, 0, 0, 5, 5, 5, 5, 0);
        Due.be("of none", x.move(0, 4), 1);
        Due.be("it is left", x.move(0, 4), 0);
    }

    private static void guards() {
        Said.that("GUARDS,");
        int[][] due = {{1, 0, 0}, {1, 1, 0}, {0, 1, 0}, {0, 1, 1}, {0, 0, 1}};
        for (int sort = 0; sort <= 4; sort++) {
            for (int more = -1; more <= 1; more++) {
                ClockZones x = new ClockZones();
                x.edge(0, 0, 1, 0, 0);
                x.guard(0, 2, sort, 1000);
                x.begin();
                x.pass(32000);
                x.pass(32000 + more);
                Due.be("sort " + sort + " at " + more, x.move(0, NONE), due[sort][more + 1]);
                Due.be("moves", x.run(8), due[sort][more + 1]);
            }
        }
        ClockZones x = new ClockZones();
        x.edge(0, 0, 1, 4, 2);
        x.edge(2, 0, 3, -4, 8);
        x.guard(0, 1, 3, 1);
        x.guard(0, 1, 1, 3);
        x.guard(1, 2, 1, 2);
        x.guard(1, 3, 3, 0);
        x.begin();
        Due.be("the first guard of the call", x.move(0, 1), 0);
        x.pass(129);
        Due.be("the first guard of the answer", x.move(0, 1), 0);
        x.pass(64);
        Due.be("the second guard of the call too", x.move(0, 1), 0);
        amounts("not moved", x, 0, 0, 0, 193, 193, 193, 193, 0);
        x.begin();
        x.pass(128);
        Due.be("all", x.move(0, 1), 1);
    }

    private static void limitsBehind() {
        Said.that("LIMITS behind it).");
        ClockZones x = new ClockZones();
        x.edge(0, 0, 1, 0, 4);
        x.edge(0, 0, 2, 0, 2);
        x.edge(0, 0, 3, 0, 0);
        x.limit(0, 1, 1, 0, 1);
        x.limit(0, 2, 1, 1, 0);
        x.limit(0, 3, 2, 1, 9);
        x.limit(0, 3, 1, 1, 1);
        x.begin();
        x.pass(64);
        Due.be("below", x.move(0, NONE), 0);
        amounts("not moved", x, 0, 0, 0, 64, 64, 64, 64, 0);
        Due.be("the clock is set back first", x.move(1, NONE), 1);
        amounts("moved", x, 2, 0, 0, 0, 64, 64, 64, 1);
        x.begin();
        x.pass(64);
        Due.be("just at most", x.move(2, NONE), 1);
        x.begin();
        x.pass(65);
        Due.be("the second of two fails", x.move(2, NONE), 0);
        x = new ClockZones();
        x.edge(0, 0, 1, 1, 0);
        x.edge(1, 0, 1, -1, 0);
        x.limit(1, 1, 3, 1, 0);
        x.begin();
        x.pass(1);
        Due.be("of the one that answers", x.move(0, 1), 0);
        amounts("not moved", x, 0, 0, 0, 1, 1, 1, 1, 0);
    }

    private static ClockZones fiveEdges() {
        ClockZones x = new ClockZones();
        x.edge(0, 0, 0, 0, 0);
        x.edge(0, 0, 0, 1, 0);
        x.edge(0, 0, 0, -1, 0);
        x.edge(1, 0, 0, -1, 0);
        x.edge(1, 0, 0, -2, 0);
        return x;
    }

    private static ClockZones fiveEdgesAndARun() {
        ClockZones x = fiveEdges();
        x.begin();
        return x;
    }

    private static void moveUnknown() {
        Said.that("UNKNOWN: e, f (but NONE);");
        Refusals.Call move = (x, a) -> x.move(a[0], a[1]);
        int[] all = {-1, 0, 4, 5, 19, 20, -2, LEAST, MOST};
        Refusals.all("no edges: move", ClockZones::new, move, a -> UNKNOWN, all, all);
        for (ClockZones x : new ClockZones[] {fiveEdges(), fiveEdgesAndARun()}) {
            for (int bad : new int[] {-1, -2, 5, 20, LEAST, MOST}) {
                Due.be("move(" + bad + ", NONE)", x.move(bad, NONE), UNKNOWN);
                Due.be("move(" + bad + ", 0)", x.move(bad, 0), UNKNOWN);
                if (bad != NONE) {
                    Due.be("move(0, " + bad + ")", x.move(0, bad), UNKNOWN);
                    Due.be("move(1, " + bad + ")", x.move(1, bad), UNKNOWN);
                }
            }
        }
    }

    /** Of the five edges 0 is a move alone, and 1 is answered by 3. */
    private static int moveDue(int[] a, int last) {
        if (!Refusals.in(a[0], 0, 4) || !Refusals.in(a[1], -1, 4)) {
            return UNKNOWN;
        }
        return a[0] == 0 && a[1] == NONE || a[0] == 1 && a[1] == 3 ? last : OUTSIDE;
    }

    private static void moveOutside() {
        Said.that("OUTSIDE: e and f are no MOVE;");
        Refusals.Call move = (x, a) -> x.move(a[0], a[1]);
        int[] all = {-1, 0, 1, 2, 3, 4, 5, -2, LEAST, MOST};
        Refusals.all("move", RunTest::fiveEdgesAndARun, move, a -> moveDue(a, Refusals.ALLOWED), all, all);
    }

    private static void moveWithoutARun() {
        Said.that("STATE: there is no RUN.");
        Refusals.Call move = (x, a) -> x.move(a[0], a[1]);
        int[] all = {-1, 0, 1, 2, 3, 4, 5, -2, LEAST, MOST};
        Refusals.all("no run: move", RunTest::fiveEdges, move, a -> moveDue(a, STATE), all, all);
        ClockZones x = fiveEdgesAndARun();
        x.guard(0, 1, 3, 9);
        Due.be("gone and not open", x.move(0, NONE), STATE);
    }

    // ---- promise 17

    private static void whatIsTold() {
        Said.that("Of the RUN: what = 0 to 2 the PLACE of that MACHINE, 3 + x the amount of CLOCK x (1 to 3),"
            + " in 64ths, 7 all time, 8 how many MOVES.");
        ClockZones x = new ClockZones();
        x.edge(0, 0, 5, 0, 2);
        x.edge(1, 0, 4, 0, 4);
        x.edge(2, 0, 3, 0, 8);
        x.begin();
        for (int m = 0; m < 3; m++) {
            x.pass(100 + m);
            x.move(m, NONE);
        }
        x.pass(1);
        amounts("walked", x, 5, 4, 3, 204, 103, 1, 304, 3);
    }

    private static void runRefusals() {
        Refusals.Call run = (x, a) -> x.run(a[0]);
        int[] whats = {0, 1, 2, 3, 4, 5, 6, 7, 8, -1, 9, LEAST, MOST};
        Said.that("STATE: there is no RUN;");
        Refusals.all("new: run", ClockZones::new, run, a -> STATE, whats);
        Refusals.all("explored: run", Nets::explored, run, a -> STATE, whats);
        Said.that("OUTSIDE.");
        Refusals.Rule told = a -> Refusals.in(a[0], 0, 8) && a[0] != 3 ? Refusals.ALLOWED : OUTSIDE;
        Refusals.all("walked: run", Nets::walked, run, told, whats);
        Refusals.all("full: run", Nets::full, run, told, whats);
    }

    // ---- promise 18

    private static ClockZones twoZones() {
        ClockZones x = new ClockZones();
        x.edge(0, 0, 1, 0, 0);
        x.guard(0, 1, 3, 3);
        x.edge(0, 0, 1, 0, 0);
        x.guard(1, 1, 3, 1);
        return x;
    }

    private static void here() {
        Said.that("The least STATE with the PLACES of the RUN whose ZONE has its CLOCKS;");
        ClockZones x = twoZones();
        x.begin();
        Due.be("explore(120)", x.explore(120), 3);
        Due.be("the run stays", x.run(8), 0);
        Due.be("at first", x.here(), 0);
        x.pass(64);
        Due.be("later", x.here(), 0);
        x.move(1, NONE);
        Due.be("in the wider zone", x.here(), 2);
        x.pass(127);
        Due.be("still", x.here(), 2);
        x.pass(1);
        Due.be("in both: the least", x.here(), 1);
    }

    private static void hereInNone() {
        Said.that("NONE.");
        ClockZones x = twoZones();
        x.begin();
        x.pass(64);
        x.move(1, NONE);
        x.explore(120);
        Due.be("all are kept", x.here(), 2);
        x.explore(2);
        Due.be("places are met, the zone is not kept", x.here(), NONE);
        x.explore(1);
        Due.be("places are not kept", x.here(), NONE);
        x.begin();
        Due.be("at the beginning", x.here(), 0);
    }

    private static void hereRefusals() {
        Said.that("STATE: there is no RUN,");
        ClockZones x = twoZones();
        x.explore(120);
        Due.be("explored, no run", x.here(), STATE);
        ClockZones none = new ClockZones();
        none.limit(0, 0, 1, 0, 0);
        none.explore(1);
        none.begin();
        Due.be("no run could begin", none.here(), STATE);
        Said.that("or explore() is needed.");
        x = twoZones();
        Due.be("neither", x.here(), STATE);
        x.begin();
        Due.be("a run, not explored", x.here(), STATE);
        x.explore(120);
        Due.be("both", x.here(), 0);
        x.edge(0, 0, 0, 0, 0);
        Due.be("both are gone", x.here(), STATE);
        x.begin();
        Due.be("begun again", x.here(), STATE);
    }
}
