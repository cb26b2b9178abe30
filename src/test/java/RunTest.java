/** Promises 14 to 18: a run by hand. */
public final class RunTest {
    private static final int NONE = ClockZones.NONE;
    private static final int UNKNOWN = ClockZones.UNKNOWN;
    private static final int OUTSIDE = ClockZones.OUTSIDE;
    private static final int STATE = ClockZones.STATE;
    private static final int LEAST = Integer.MIN_VALUE;
    private static final int MOST = Integer.MAX_VALUE;

    public static void main(String[] args) {
        begins();
        noBeginning();
        passes();
        passesToTheMost();
        passRefusals();
        moves();
        movesOfTwo();
        everyGuard();
        limitsBehind();
        moveRefusals();
        whatIsTold();
        here();
        Due.done();
    }

    private static void amounts(String name, ClockZones x, int... due) {
        int[] what = {0, 1, 2, 4, 5, 6, 7, 8};
        for (int i = 0; i < what.length; i++) {
            Due.be(name + ": run(" + what[i] + ")", x.run(what[i]), due[i]);
        }
    }

    private static void begins() {
        ClockZones x = new ClockZones();
        Due.be("begin()", x.begin(), 1);
        amounts("begun", x, 0, 0, 0, 0, 0, 0, 0, 0);
        x.edge(1, 0, 2, 0, 4);
        Due.be("gone: run(0)", x.run(0), STATE);
        Due.be("begin()", x.begin(), 1);
        x.pass(9);
        x.move(0, NONE);
        amounts("moved", x, 0, 2, 0, 9, 0, 9, 9, 1);
        Due.be("begin() anew", x.begin(), 1);
        amounts("begun anew", x, 0, 0, 0, 0, 0, 0, 0, 0);
        Due.be("begin() needs no explore()", x.count(5), 1);
    }

    private static void noBeginning() {
        ClockZones x = new ClockZones();
        x.limit(1, 0, 2, 0, 0);
        Due.be("below 0: begin()", x.begin(), 0);
        Due.be("below 0: run(8)", x.run(8), STATE);
        Due.be("below 0: pass(1)", x.pass(1), STATE);
        x.wipe();
        x.limit(1, 0, 2, 1, 0);
        x.limit(1, 1, 2, 0, 0);
        Due.be("at most 0: begin()", x.begin(), 1);
        Due.be("at most 0: pass(1)", x.pass(1), 0);
        Due.be("at most 0: run(7)", x.run(7), 0);
    }

    private static void passes() {
        ClockZones x = new ClockZones();
        x.limit(0, 0, 1, 1, 2);
        x.limit(2, 0, 3, 0, 2);
        x.begin();
        Due.be("pass(128) of below 2", x.pass(128), 0);
        Due.be("pass(127)", x.pass(127), 1);
        Due.be("pass(1)", x.pass(1), 0);
        amounts("passed", x, 0, 0, 0, 127, 127, 127, 127, 0);
        x.wipe();
        x.limit(0, 0, 1, 1, 2);
        x.begin();
        Due.be("pass(128) of at most 2", x.pass(128), 1);
        Due.be("pass(1)", x.pass(1), 0);
        x.wipe();
        x.limit(0, 1, 1, 1, 0);
        x.begin();
        Due.be("limits of another place", x.pass(64000), 1);
    }

    private static void passesToTheMost() {
        ClockZones x = new ClockZones();
        x.edge(0, 0, 0, 0, 14);
        x.edge(0, 0, 0, 0, 6);
        x.begin();
        for (int i = 0; i < 15; i++) {
            Due.be("pass(64000)", x.pass(64000), 1);
        }
        Due.be("pass(40001)", x.pass(40001), STATE);
        Due.be("pass(64000)", x.pass(64000), STATE);
        Due.be("run(7)", x.run(7), 960000);
        Due.be("pass(40000)", x.pass(40000), 1);
        Due.be("run(6)", x.run(6), 1000000);
        Due.be("pass(1)", x.pass(1), STATE);
        Due.be("move(1, NONE)", x.move(1, NONE), 1);
        Due.be("one clock is still at the most", x.pass(1), STATE);
        Due.be("move(0, NONE)", x.move(0, NONE), 1);
        Due.be("pass(64000)", x.pass(64000), 1);
        amounts("past the most", x, 0, 0, 0, 64000, 64000, 64000, 1064000, 2);
        x.wipe();
        x.edge(0, 0, 0, 0, 2);
        x.limit(0, 0, 1, 1, 1000);
        x.begin();
        for (int i = 0; i < 14; i++) {
            x.pass(64000);
            x.move(0, NONE);
        }
        Due.be("up to the limit", x.pass(64000), 1);
        Due.be("limits fail and a clock is too great", x.pass(40001), STATE);
        Due.be("limits fail alone", x.pass(40000), 0);
    }

    private static void passRefusals() {
        ClockZones x = new ClockZones();
        for (int bad : new int[] {-1, 0, 64001, LEAST, MOST}) {
            Due.be("no run: pass(" + bad + ")", x.pass(bad), OUTSIDE);
        }
        Due.be("no run: pass(1)", x.pass(1), STATE);
        x.begin();
        for (int bad : new int[] {-1, 0, 64001, LEAST, MOST}) {
            Due.be("pass(" + bad + ")", x.pass(bad), OUTSIDE);
        }
        Due.be("run(7)", x.run(7), 0);
        Due.be("pass(1)", x.pass(1), 1);
        Due.be("pass(64000)", x.pass(64000), 1);
        Due.be("run(7)", x.run(7), 64001);
    }

    private static void moves() {
        ClockZones x = new ClockZones();
        x.edge(2, 0, 5, 0, 10);
        x.edge(2, 5, 0, 0, 0);
        x.begin();
        x.pass(10);
        Due.be("another place", x.move(1, NONE), 0);
        amounts("not moved", x, 0, 0, 0, 10, 10, 10, 10, 0);
        Due.be("move(0, NONE)", x.move(0, NONE), 1);
        amounts("moved", x, 0, 0, 5, 0, 10, 0, 10, 1);
        Due.be("another place now", x.move(0, NONE), 0);
        Due.be("back", x.move(1, NONE), 1);
        amounts("moved back", x, 0, 0, 0, 0, 10, 0, 10, 2);
    }

    private static void movesOfTwo() {
        ClockZones x = new ClockZones();
        x.edge(0, 0, 1, 4, 2);
        x.edge(2, 0, 3, -4, 8);
        x.edge(2, 1, 3, -4, 0);
        x.guard(0, 1, 3, 1);
        x.guard(1, 2, 1, 2);
        x.begin();
        Due.be("the guard of the call", x.move(0, 1), 0);
        x.pass(64);
        Due.be("the place of the answer", x.move(0, 2), 0);
        x.pass(65);
        Due.be("the guard of the answer", x.move(0, 1), 0);
        amounts("not moved", x, 0, 0, 0, 129, 129, 129, 129, 0);
        x.begin();
        x.pass(128);
        Due.be("both", x.move(0, 1), 1);
        amounts("both moved", x, 1, 0, 3, 0, 128, 0, 128, 1);
    }

    private static void everyGuard() {
        int[][] due = {{1, 0, 0}, {1, 1, 0}, {0, 1, 0}, {0, 1, 1}, {0, 0, 1}};
        for (int sort = 0; sort <= 4; sort++) {
            for (int more = -1; more <= 1; more++) {
                ClockZones x = new ClockZones();
                x.edge(0, 0, 1, 0, 0);
                x.guard(0, 2, sort, 1000);
                x.limit(0, 5, 2, 0, 0);
                x.begin();
                x.pass(32000);
                x.pass(32000 + more);
                Due.be("sort " + sort + " at " + more, x.move(0, NONE), due[sort][more + 1]);
            }
        }
    }

    private static void limitsBehind() {
        ClockZones x = new ClockZones();
        x.edge(0, 0, 1, 0, 4);
        x.edge(0, 0, 2, 0, 2);
        x.limit(0, 1, 1, 0, 1);
        x.limit(0, 2, 1, 1, 0);
        x.begin();
        x.pass(64);
        Due.be("a limit behind it", x.move(0, NONE), 0);
        amounts("not moved", x, 0, 0, 0, 64, 64, 64, 64, 0);
        Due.be("the clock is set back first", x.move(1, NONE), 1);
        amounts("moved", x, 2, 0, 0, 0, 64, 64, 64, 1);
    }

    private static void moveRefusals() {
        ClockZones x = new ClockZones();
        x.edge(0, 0, 0, 0, 0);
        x.edge(0, 0, 0, 1, 0);
        x.edge(0, 0, 0, -1, 0);
        x.edge(1, 0, 0, -1, 0);
        x.edge(1, 0, 0, -2, 0);
        for (int begun = 0; begun < 2; begun++) {
            for (int bad : new int[] {-1, -2, 5, 20, LEAST, MOST}) {
                Due.be("move(" + bad + ", -1)", x.move(bad, NONE), UNKNOWN);
                Due.be("move(" + bad + ", 0)", x.move(bad, 0), UNKNOWN);
                if (bad != NONE) {
                    Due.be("move(0, " + bad + ")", x.move(0, bad), UNKNOWN);
                }
            }
            int[][] none = {{0, 0}, {0, 3}, {1, NONE}, {2, NONE}, {3, NONE}, {1, 2}, {1, 4},
                {3, 1}, {1, 1}, {1, 0}, {2, 1}};
            for (int[] pair : none) {
                Due.be("move(" + pair[0] + ", " + pair[1] + ")", x.move(pair[0], pair[1]), OUTSIDE);
            }
            Due.be("move(0, -1)", x.move(0, NONE), begun == 0 ? STATE : 1);
            Due.be("move(1, 3)", x.move(1, 3), begun == 0 ? STATE : 1);
            x.begin();
        }
    }

    private static void whatIsTold() {
        ClockZones x = new ClockZones();
        for (int what = -1; what <= 9; what++) {
            Due.be("no run: run(" + what + ")", x.run(what), STATE);
        }
        x.begin();
        for (int bad : new int[] {-1, 3, 9, LEAST, MOST}) {
            Due.be("run(" + bad + ")", x.run(bad), OUTSIDE);
        }
    }

    private static void here() {
        ClockZones x = new ClockZones();
        x.edge(0, 0, 1, 0, 0);
        x.guard(0, 1, 3, 3);
        x.edge(0, 0, 1, 0, 0);
        x.guard(1, 1, 3, 1);
        Due.be("here() of neither", x.here(), STATE);
        x.begin();
        Due.be("here() before explore()", x.here(), STATE);
        Due.be("explore(120)", x.explore(120), 3);
        Due.be("the run stays", x.run(8), 0);
        Due.be("here() at first", x.here(), 0);
        x.pass(64);
        x.move(1, NONE);
        Due.be("here() in the wider zone", x.here(), 2);
        x.pass(127);
        Due.be("here() still", x.here(), 2);
        x.pass(1);
        Due.be("here() in both: the least", x.here(), 1);
        x.explore(1);
        Due.be("here() in none", x.here(), NONE);
        ClockZones none = new ClockZones();
        none.explore(1);
        Due.be("here() without a run", none.here(), STATE);
    }
}
