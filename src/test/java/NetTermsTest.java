/** "What it is", and the terms of the net and of a run. */
public final class NetTermsTest {
    private static final int NONE = ClockZones.NONE;
    private static final int UNKNOWN = ClockZones.UNKNOWN;
    private static final int OUTSIDE = ClockZones.OUTSIDE;
    private static final int STATE = ClockZones.STATE;
    private static final int FULL = ClockZones.FULL;
    private static final int MOST_CALLS = 512;

    public static void main(String[] args) {
        Said.in("What it is");
        example();
        Said.in("What it is", 1);
        machines();
        places();
        whereItBegins();
        clocks();
        callsOfANet();
        callsOfStates();
        callsOfARun();
        laterCalls();
        Said.in("Terms");
        numbersOfTests();
        sortsInARun();
        sortsInStates();
        limits();
        edges();
        channels();
        guards();
        resets();
        movesAlone();
        movesOfTwo();
        orderOfMoves();
        orderOfLateMoves();
        beginning();
        timeGoesBy();
        doneMoves();
        limitsAtTheBeginning();
        Said.done();
    }

    private static void example() {
        Said.that("Machines with clocks: places one may stay in for so long, moves that are open between times,"
            + " clocks set back, moves of two at once; all that can be reached at all is found by bounds on"
            + " clocks and on differences of clocks, told beyond the greatest number that matters no more; to"
            + " each place that can be reached there are earliest times by which it is.");
        ClockZones x = new ClockZones();
        int e = x.edge(0, 0, 1, 1, 2);
        int f = x.edge(1, 0, 1, -1, 0);
        x.guard(e, 1, 3, 2);
        x.guard(e, 1, 1, 4);
        x.limit(0, 1, 1, 0, 3);
        x.limit(0, 5, 2, 1, 9);
        Due.be("all that can be reached", x.explore(120), 2);
        Due.be("a difference of clocks", x.bound(1, 2, 1), 9);
        Due.be("a clock", x.bound(1, 1, 0), 6);
        Due.be("the earliest time", x.moment(x.reach(1, 1, -1), 0), 128);
        x.begin();
        Due.be("not open yet", x.move(e, f), 0);
        x.pass(128);
        Due.be("both at once", x.move(e, f), 1);
        Due.be("one may stay", x.pass(191), 1);
        Due.be("for so long", x.pass(1), 0);
    }

    // ---- what it is

    private static void machines() {
        Said.that("THE NET has MACHINES 0 to 2,");
        ClockZones x = new ClockZones();
        int[] due = {UNKNOWN, 0, 0, 0, UNKNOWN};
        for (int m = -1; m <= 3; m++) {
            int edge = x.edge(m, 0, 0, 0, 0);
            Due.be("edge of machine " + m, Math.min(edge, 0), due[m + 1]);
            Due.be("limit of machine " + m, Math.min(x.limit(m, 0, 1, 1, 1), 0), due[m + 1]);
        }
        Due.be("edges", x.count(0), 3);
        Due.be("limits", x.count(1), 3);
    }

    private static void places() {
        Said.that("each with PLACES 0 to 5");
        ClockZones x = new ClockZones();
        for (int m = 0; m < 3; m++) {
            for (int bad : new int[] {-1, 6}) {
                Due.be("edge from " + bad, x.edge(m, bad, 0, 0, 0), UNKNOWN);
                Due.be("edge to " + bad, x.edge(m, 0, bad, 0, 0), UNKNOWN);
                Due.be("limit of place " + bad, x.limit(m, bad, 1, 1, 1), UNKNOWN);
            }
            for (int p = 0; p < 5; p++) {
                Due.be("edge from " + p, x.edge(m, p, p + 1, 0, 0), 5 * m + p);
            }
            x.limit(m, 5, 1, 0, 1);
        }
        x.begin();
        for (int e = 0; e < 15; e++) {
            Due.be("move " + e, x.move(e, NONE), 1);
        }
        for (int m = 0; m < 3; m++) {
            Due.be("machine " + m + " is at", x.run(m), 5);
        }
        Due.be("limits of places 5", x.pass(64), 0);
    }

    private static void whereItBegins() {
        Said.that("(0 is where it begins),");
        for (int m = 0; m < 3; m++) {
            ClockZones x = new ClockZones();
            x.edge(m, 1, 2, 0, 0);
            Due.be("from place 1", x.explore(120), 1);
            x.edge(m, 0, 2, 0, 0);
            Due.be("from place 0", x.explore(120), 2);
            x.begin();
            for (int machine = 0; machine < 3; machine++) {
                Due.be("state(0, " + machine + ")", x.state(0, machine), 0);
                Due.be("run(" + machine + ")", x.run(machine), 0);
            }
            Due.be("move from place 1", x.move(0, NONE), 0);
            Due.be("move from place 0", x.move(1, NONE), 1);
        }
    }

    private static void clocks() {
        Said.that("and CLOCKS 1 to 3.");
        ClockZones x = new ClockZones();
        x.edge(0, 0, 0, 0, 0);
        x.edge(0, 0, 0, 0, 0);
        int[] due = {UNKNOWN, UNKNOWN, 0, 0, 0, UNKNOWN};
        for (int clock = -1; clock <= 4; clock++) {
            int edge = clock / 3;
            Due.be("guard of clock " + clock, Math.min(x.guard(edge, clock, 1, 1), 0), due[clock + 1]);
            Due.be("limit of clock " + clock,
                Math.min(x.limit(0, 1 + edge, clock, 1, 1), 0), due[clock + 1]);
            Due.be("greatest(" + clock + ")", Math.min(x.greatest(clock), 0), due[clock + 1]);
        }
        Due.be("guards", x.count(2), 3);
        Due.be("limits", x.count(1), 3);
    }

    /** Tells and wipes, so that every call of an object makes something. */
    private static void callsOfANet() {
        Said.that("An object is used for at most 512 calls after it has been made;");
        ClockZones x = new ClockZones();
        for (int call = 0; call < MOST_CALLS; call++) {
            int e = call % 21;
            if (e == 20) {
                Due.be("call " + call + ": wipe()", x.wipe(), 20);
            } else {
                Due.be("call " + call + ": edge", x.edge(e % 2, 0, 1, e % 2 == 0 ? 1 : -1, 14), e);
            }
        }
    }

    private static void callsOfStates() {
        ClockZones x = Nets.walkers(6, 5, 4);
        int calls = 12;
        for (int i = 0; i < 40; i++, calls++) {
            Due.be("explore(120)", x.explore(120), 120);
        }
        for (; calls < MOST_CALLS; calls++) {
            Due.be("call " + calls + ": moment(119, " + calls % 12 + ")", x.moment(119, calls % 12), 0);
        }
    }

    private static void callsOfARun() {
        ClockZones x = new ClockZones();
        x.edge(0, 0, 0, 0, 14);
        x.begin();
        int calls = 2;
        for (int i = 0; i < 254; i++, calls += 2) {
            Due.be("pass(64000)", x.pass(64000), 1);
            Due.be("move(0, NONE)", x.move(0, NONE), 1);
        }
        Due.be("call " + calls + ": run(7)", x.run(7), 254 * 64000);
        Due.be("call " + (calls + 1) + ": run(8)", x.run(8), 254);
        Due.be("calls", calls + 2, MOST_CALLS);
    }

    /** Whatever they answer, no call may throw, even where all time is more than an int. */
    private static void laterCalls() {
        Said.that("what later calls answer is free.");
        ClockZones x = new ClockZones();
        x.edge(0, 0, 0, 0, 14);
        x.explore(120);
        x.begin();
        for (int i = 0; i < 40000; i++) {
            x.pass(64000);
            x.move(0, NONE);
        }
        ClockZones full = Nets.full();
        for (ClockZones y : new ClockZones[] {x, full}) {
            for (int i = -200; i < 2000; i++) {
                y.edge(i, i, i, i, i);
                y.guard(i, i, i, i);
                y.limit(i, i, i, i, i);
                y.state(i, i);
                y.bound(i, i, i);
                y.reach(i, i, i);
                y.has(i, i, i, i);
                y.way(i, i, i);
                y.moment(i, i);
                y.move(i, i);
                y.run(i);
                y.about(i, i);
                y.here();
                y.digest();
            }
        }
        Due.hold("none has thrown", true);
    }

    // ---- terms

    private static void numbersOfTests() {
        Said.that("A TEST is of a CLOCK and a whole number c of 0 to 1000:");
        for (int c : new int[] {-1, 0, 1000, 1001}) {
            ClockZones x = new ClockZones();
            x.edge(0, 0, 1, 0, 0);
            int due = c < 0 || c > 1000 ? OUTSIDE : 1;
            for (int clock = 1; clock <= 3; clock++) {
                Due.be("limit of " + c, x.limit(0, clock, clock, 1, c), due);
            }
            Due.be("guard of " + c, x.guard(0, 1, 3, c), due);
            Due.be("greatest(1)", x.greatest(1), due == 1 ? c : 0);
        }
    }

    private static void sortsInARun() {
        Said.that("sort 0 (below c), 1 (c at most), 2 (just c), 3 (c at least), 4 (above c).");
        for (int c : new int[] {0, 1, 1000}) {
            for (int sort = 0; sort <= 4; sort++) {
                for (int amount = Math.max(0, 64 * c - 1); amount <= 64 * c + 1; amount++) {
                    ClockZones x = new ClockZones();
                    x.edge(0, 0, 1, 0, 0);
                    x.guard(0, 2, sort, c);
                    x.begin();
                    for (int left = amount; left > 0; left -= 64000) {
                        x.pass(Math.min(left, 64000));
                    }
                    boolean[] due = {amount < 64 * c, amount <= 64 * c, amount == 64 * c,
                        amount >= 64 * c, amount > 64 * c};
                    Due.be("sort " + sort + " of " + c + " at " + amount,
                        x.move(0, NONE), due[sort] ? 1 : 0);
                }
            }
        }
    }

    /** Where one may stay until c at most, or below c, a guard of c is met or it is not. */
    private static void sortsInStates() {
        for (int c : new int[] {0, 1, 1000}) {
            for (int sort = 0; sort <= 4; sort++) {
                ClockZones x = new ClockZones();
                x.edge(0, 0, 1, 0, 0);
                x.guard(0, 2, sort, c);
                x.limit(0, 0, 2, 1, c);
                boolean atMost = sort != 4 && (sort != 0 || c > 0);
                Due.be("at most " + c + ", sort " + sort, x.explore(9), atMost ? 2 : 1);
                x.limit(1, 0, 2, 0, c);
                boolean below = sort <= 1;
                Due.be("below " + c + ", sort " + sort, x.explore(9), c == 0 ? 0 : below ? 2 : 1);
            }
        }
    }

    private static void limits() {
        Said.that("A PLACE has LIMITS, TESTS of sort 0 or 1 (2 at most).");
        ClockZones x = new ClockZones();
        for (int sort = -1; sort <= 5; sort++) {
            boolean told = sort == 0 || sort == 1;
            Due.be("sort " + sort, x.limit(1, 1, 1, sort, 9), told ? sort + 1 : OUTSIDE);
        }
        Due.be("a third one", x.limit(1, 1, 1, 0, 9), FULL);
        Due.be("a third one of another clock", x.limit(1, 1, 2, 1, 9), FULL);
        Due.be("the place beside it", x.limit(1, 2, 1, 0, 9), 1);
        Due.be("the same place of another machine", x.limit(2, 1, 1, 0, 9), 1);
        x.edge(1, 0, 1, 0, 0);
        x.begin();
        x.move(0, NONE);
        Due.be("below 9 and 9 at most: pass(576)", x.pass(576), 0);
        Due.be("below 9 and 9 at most: pass(575)", x.pass(575), 1);
    }

    private static void edges() {
        Said.that("EDGES (20 at most, numbered as they come)");
        ClockZones x = new ClockZones();
        for (int e = 0; e < 20; e++) {
            Due.be("edge " + e, x.edge(e % 3, e % 6, 5 - e % 6, 0, 0), e);
        }
        Due.be("the 21st", x.edge(0, 0, 0, 0, 0), FULL);
        Said.that("are of a MACHINE, from a PLACE to a PLACE,");
        for (int e = 0; e < 20; e++) {
            Due.be("machine of " + e, x.about(e, 0), e % 3);
            Due.be("from of " + e, x.about(e, 1), e % 6);
            Due.be("to of " + e, x.about(e, 2), 5 - e % 6);
        }
        ClockZones loop = new ClockZones();
        Due.be("to the place that it is from", loop.edge(0, 0, 0, 0, 0), 0);
        loop.begin();
        Due.be("it is done", loop.move(0, NONE), 1);
        Due.be("and counts", loop.run(8), 1);
    }

    private static void channels() {
        Said.that("with a CHANNEL: 0 none, k (1 to 4) calls, -k answers;");
        for (int k = -5; k <= 5; k++) {
            for (int j = -5; j <= 5; j++) {
                ClockZones x = new ClockZones();
                boolean told = Math.abs(k) <= 4 && Math.abs(j) <= 4;
                Due.be("channel " + k, x.edge(0, 0, 1, k, 0), Math.abs(k) <= 4 ? 0 : OUTSIDE);
                Due.be("channel " + j, Math.min(x.edge(1, 0, 1, j, 0), 0), Math.abs(j) <= 4 ? 0 : OUTSIDE);
                if (!told) {
                    continue;
                }
                int alone = (k == 0 ? 1 : 0) + (j == 0 ? 1 : 0);
                Due.be("moves of " + k + " and " + j, x.count(4), alone + (k != 0 && k == -j ? 1 : 0));
                x.begin();
                Due.be("move(0, 1)", x.move(0, 1), k > 0 && k == -j ? 1 : OUTSIDE);
                Due.be("move(1, 0)", x.move(1, 0), j > 0 && k == -j ? 1 : OUTSIDE);
                Due.be("move(0, NONE)", x.move(0, NONE), k == 0 ? 1 : OUTSIDE);
            }
        }
    }

    private static void guards() {
        Said.that("with GUARDS, TESTS (2 at most);");
        ClockZones x = new ClockZones();
        x.edge(0, 0, 1, 0, 0);
        x.edge(0, 0, 1, 0, 0);
        Due.be("the first", x.guard(1, 1, 3, 1), 1);
        Due.be("the second", x.guard(1, 2, 0, 2), 2);
        Due.be("the third", x.guard(1, 3, 3, 1), FULL);
        Due.be("one of another edge", x.guard(0, 3, 3, 9), 1);
        x.begin();
        x.pass(63);
        Due.be("the first fails", x.move(1, NONE), 0);
        x.pass(1);
        Due.be("both hold", x.move(1, NONE), 1);
        x.begin();
        x.pass(128);
        Due.be("the second fails", x.move(1, NONE), 0);
    }

    private static void resets() {
        Said.that("and RESETS, a choice of CLOCKS.");
        for (int resets = 0; resets <= 14; resets += 2) {
            ClockZones x = new ClockZones();
            x.edge(0, 0, 1, 0, resets);
            x.guard(0, 1, 2, 5);
            x.limit(2, 2, 2, 1, 9);
            x.limit(2, 2, 3, 1, 9);
            Due.be("explore(9)", x.explore(9), 2);
            x.begin();
            x.pass(320);
            x.move(0, NONE);
            for (int clock = 1; clock <= 3; clock++) {
                int amount = (resets & 1 << clock) != 0 ? 0 : 320;
                Due.be("resets " + resets + ": clock " + clock, x.run(3 + clock), amount);
                Due.be("resets " + resets + ": bound", x.bound(1, 0, clock), amount == 0 ? 1 : -9);
            }
        }
    }

    private static void movesAlone() {
        Said.that("A MOVE is an EDGE without a CHANNEL (told as e, NONE),");
        ClockZones x = new ClockZones();
        x.edge(0, 0, 1, 0, 0);
        x.edge(0, 0, 1, 1, 0);
        x.edge(0, 0, 1, -1, 0);
        Due.be("moves", x.count(4), 1);
        Due.be("explore(9)", x.explore(9), 2);
        Due.be("way(1, 0, 0)", x.way(1, 0, 0), 0);
        Due.be("way(1, 0, 1)", x.way(1, 0, 1), NONE);
        Due.be("no run: move(0, NONE)", x.move(0, NONE), STATE);
        Due.be("move(0, 0)", x.move(0, 0), OUTSIDE);
        Due.be("move(1, NONE)", x.move(1, NONE), OUTSIDE);
        Due.be("move(2, NONE)", x.move(2, NONE), OUTSIDE);
    }

    private static void movesOfTwo() {
        Said.that("or an EDGE that calls by k and an EDGE of another MACHINE that answers by k (told as e, f),"
            + " at once.");
        ClockZones x = new ClockZones();
        x.edge(1, 0, 1, -3, 0);
        x.edge(1, 0, 2, 3, 0);
        x.edge(2, 0, 3, -3, 0);
        x.edge(0, 0, 4, 3, 0);
        Due.be("moves", x.count(4), 3);
        Due.be("its own machine answers", x.move(1, 0), OUTSIDE);
        Due.be("the answer first", x.move(2, 1), OUTSIDE);
        Due.be("explore(9)", x.explore(9), 4);
        int[][] due = {{0, 2, 3, 1, 2}, {4, 1, 0, 3, 0}, {4, 0, 3, 3, 2}};
        for (int i = 1; i <= 3; i++) {
            for (int m = 0; m < 3; m++) {
                Due.be("state(" + i + ", " + m + ")", x.state(i, m), due[i - 1][m]);
            }
            Due.be("its call", x.state(i, 4), due[i - 1][3]);
            Due.be("its answer", x.state(i, 5), due[i - 1][4]);
            x.begin();
            Due.be("done at once", x.move(due[i - 1][3], due[i - 1][4]), 1);
            for (int m = 0; m < 3; m++) {
                Due.be("run(" + m + ")", x.run(m), due[i - 1][m]);
            }
            Due.be("one move", x.run(8), 1);
        }
    }

    private static void orderOfMoves() {
        Said.that("MOVES are in order of e, then f.");
        ClockZones x = new ClockZones();
        x.edge(2, 0, 1, -1, 0);
        x.edge(1, 0, 2, -1, 0);
        x.edge(0, 0, 3, 0, 0);
        x.edge(0, 0, 4, 1, 0);
        x.edge(1, 0, 5, -1, 0);
        x.edge(0, 0, 5, 0, 0);
        Due.be("count(4)", x.count(4), 5);
        Due.be("explore(120)", x.explore(120), 6);
        int[][] due = {{2, NONE}, {3, 0}, {3, 1}, {3, 4}, {5, NONE}};
        for (int i = 1; i <= 5; i++) {
            Due.be("state(" + i + ", 4)", x.state(i, 4), due[i - 1][0]);
            Due.be("state(" + i + ", 5)", x.state(i, 5), due[i - 1][1]);
        }
    }

    /** Moves that are there late, by an answer to an earlier call, come ahead all the same. */
    private static void orderOfLateMoves() {
        ClockZones x = new ClockZones();
        x.edge(0, 0, 1, 1, 0);
        x.edge(0, 0, 2, 2, 0);
        x.edge(0, 0, 3, 0, 0);
        x.edge(1, 0, 1, -2, 0);
        x.edge(2, 0, 1, -2, 0);
        x.edge(1, 0, 2, -1, 0);
        x.edge(2, 0, 2, -1, 0);
        Due.be("late: explore(1)", x.explore(1), -2);
        Due.be("late: explore(6)", x.explore(6), 6);
        int[][] due = {{0, 5}, {0, 6}, {1, 3}, {1, 4}, {2, NONE}};
        for (int i = 1; i <= 5; i++) {
            Due.be("late: state(" + i + ", 4)", x.state(i, 4), due[i - 1][0]);
            Due.be("late: state(" + i + ", 5)", x.state(i, 5), due[i - 1][1]);
        }
    }

    private static void beginning() {
        Said.that("A RUN: all MACHINES are at PLACE 0, CLOCKS are 0;");
        ClockZones x = Nets.walked();
        x.begin();
        for (int what : new int[] {0, 1, 2, 4, 5, 6, 7, 8}) {
            Due.be("run(" + what + ")", x.run(what), 0);
        }
    }

    private static void timeGoesBy() {
        Said.that("time goes by (any amount: all CLOCKS grow alike) as long as all LIMITS of all PLACES hold;");
        for (int m = 0; m < 3; m++) {
            for (int clock = 1; clock <= 3; clock++) {
                ClockZones x = new ClockZones();
                x.edge((m + 1) % 3, 0, 0, 0, 14 - (1 << clock));
                x.limit(m, 0, clock, 1, 3);
                x.limit(m, 1, clock, 1, 0);
                x.begin();
                Due.be("pass(100)", x.pass(100), 1);
                x.move(0, NONE);
                Due.be("pass(93)", x.pass(93), 0);
                Due.be("pass(92)", x.pass(92), 1);
                for (int other = 1; other <= 3; other++) {
                    Due.be("clock " + other, x.run(3 + other), other == clock ? 192 : 92);
                }
            }
        }
    }

    private static void doneMoves() {
        Said.that("a MOVE is done, if its MACHINES are at those PLACES, all GUARDS hold, and behind it (its"
            + " CLOCKS set to 0) all LIMITS hold.");
        ClockZones x = new ClockZones();
        x.edge(0, 0, 1, 2, 2);
        x.edge(1, 1, 2, -2, 4);
        x.edge(1, 0, 1, 0, 0);
        x.guard(0, 2, 3, 1);
        x.guard(1, 1, 3, 1);
        x.limit(0, 1, 1, 1, 0);
        x.limit(1, 2, 2, 1, 0);
        x.limit(2, 0, 3, 1, 2);
        x.begin();
        x.pass(64);
        Due.be("one machine is not there", x.move(0, 1), 0);
        Due.be("it comes", x.move(2, NONE), 1);
        Due.be("guards of clocks that are then set to 0", x.move(0, 1), 1);
        Due.be("clock 1", x.run(4), 0);
        Due.be("clock 2", x.run(5), 0);
        Due.be("clock 3", x.run(6), 64);
        x.begin();
        x.pass(63);
        x.move(2, NONE);
        Due.be("guards do not hold", x.move(0, 1), 0);
    }

    private static void limitsAtTheBeginning() {
        Said.that("(At the beginning LIMITS have to hold, too.)");
        for (int m = 0; m < 3; m++) {
            for (int clock = 1; clock <= 3; clock++) {
                for (int sort = 0; sort <= 1; sort++) {
                    for (int c = 0; c <= 1; c++) {
                        ClockZones x = new ClockZones();
                        x.limit(m, 0, clock, sort, c);
                        int due = sort == 0 && c == 0 ? 0 : 1;
                        Due.be("sort " + sort + " of " + c + ": begin()", x.begin(), due);
                        Due.be("sort " + sort + " of " + c + ": explore(9)", x.explore(9), due);
                        Due.be("sort " + sort + " of " + c + ": here()", x.here(), due == 1 ? 0 : STATE);
                    }
                }
            }
        }
    }
}
