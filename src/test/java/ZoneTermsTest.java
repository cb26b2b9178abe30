import java.util.Random;

/** The terms of part 2: bounds, zones, the greatest numbers, widening, states. */
public final class ZoneTermsTest {
    private static final int NONE = ClockZones.NONE;
    private static final int OUTSIDE = ClockZones.OUTSIDE;
    private static final int UNKNOWN = ClockZones.UNKNOWN;
    private static final int OPEN = 100000;

    public static void main(String[] args) {
        Said.in("Terms", 2);
        bounds();
        zones();
        belowIfOneIs();
        for (int run = 0; run < 150 && !Due.isLost(); run++) {
            closed(run);
        }
        justOneWay();
        greatest();
        greatestWithoutAny();
        widenedAboveAndBelow();
        widenedAtOnce();
        closedAgain();
        beyond();
        numbersOfStates();
        firstState();
        later();
        stateByState();
        guardsThenResetsThenLimits();
        emptyByTwoGuards();
        emptyByALimitBehind();
        emptyByTheAnswer();
        covered();
        coveredByTwoTogether();
        otherPlaces();
        noFirstState();
        Said.done();
    }

    private static void bounds(String name, ClockZones x, int i, int... due) {
        for (int k = 0; k < 16; k++) {
            Due.be(name + ": bound(" + i + ", " + k / 4 + ", " + k % 4 + ")",
                x.bound(i, k / 4, k % 4), due[k]);
        }
    }

    // ---- bounds and zones

    private static void bounds() {
        Said.that("BOUNDS: of a CLOCK (or 0, a clock that is always 0) less another one: below a number, at"
            + " most a number, or none.");
        ClockZones x = new ClockZones();
        x.limit(0, 0, 1, 0, 4);
        x.explore(1);
        Due.be("below 4", x.bound(0, 1, 0), 8);
        Due.be("0 less clock 1", x.bound(0, 0, 1), 1);
        Due.be("0 less 0", x.bound(0, 0, 0), 1);
        x.wipe();
        x.limit(0, 0, 1, 1, 4);
        x.explore(1);
        Due.be("at most 4", x.bound(0, 1, 0), 9);
        x.wipe();
        x.explore(1);
        Due.be("none", x.bound(0, 1, 0), OPEN);
        Due.be("clock 1 less clock 2", x.bound(0, 1, 2), 1);
    }

    private static void zones() {
        Said.that("A ZONE is all amounts of CLOCKS (0 or more each) that keep a BOUND for each pair of 0 to 3;");
        ClockZones x = new ClockZones();
        x.edge(0, 0, 1, 0, 8);
        x.guard(0, 1, 4, 1);
        x.guard(0, 1, 1, 2);
        x.limit(0, 1, 3, 0, 1);
        Due.be("explore(9)", x.explore(9), 2);
        bounds("zone", x, 1, 1, -2, -2, 1, 6, 1, 1, 5, 6, 1, 1, 5, 2, -2, -2, 1);
        int[][] cases = {{65, 65, 0, 1}, {64, 64, 0, 0}, {128, 128, 0, 1}, {129, 129, 0, 0},
            {191, 191, 63, 1}, {192, 192, 64, 0}, {65, 66, 0, 0}, {66, 65, 0, 0}, {65, 65, 1, 0},
            {66, 66, 1, 1}, {0, 0, 0, 0}};
        for (int[] c : cases) {
            Due.be("has(1, " + c[0] + ", " + c[1] + ", " + c[2] + ")", x.has(1, c[0], c[1], c[2]), c[3]);
        }
        Due.be("0 each", x.has(0, 0, 0, 0), 1);
        Due.be("less than 0", x.has(0, -1, -1, -1), OUTSIDE);
    }

    /** Clock 1 less clock 2 is below 3, and clock 2 at most 2: so clock 1 is below 5, and so on. */
    private static void belowIfOneIs() {
        Said.that("it is CLOSED, if no BOUND can be told more narrowly by the others (x less z is never more"
            + " than x less y and y less z together: that is below, if one of both is).");
        int[][] due = {{10, 10}, {10, 11}};
        for (int guard = 0; guard <= 1; guard++) {
            for (int limit = 0; limit <= 1; limit++) {
                ClockZones x = new ClockZones();
                x.edge(0, 0, 1, 0, 4);
                x.guard(0, 1, guard, 3);
                x.limit(0, 1, 2, limit, 2);
                x.limit(0, 2, 1, 1, 5);
                Due.be("explore(9)", x.explore(9), 2);
                Due.be("sorts " + guard + " and " + limit, x.bound(1, 1, 0), due[guard][limit]);
            }
        }
    }

    /** The tests of a random net; limits are few, so that there is much to be met. */
    private static void tell(Random random, Asked asked) {
        int most = 1 + random.nextInt(9);
        for (int e = 0, edges = 3 + random.nextInt(8); e < edges; e++) {
            int edge = e, m = random.nextInt(2), from = random.nextInt(1 + e / 3), to = random.nextInt(3);
            int resets = 2 * random.nextInt(8);
            asked.tell(x -> x.edge(m, from, to, 0, resets));
            for (int g = random.nextInt(3); g > 0; g--) {
                int clock = 1 + random.nextInt(3), sort = random.nextInt(5), c = random.nextInt(most + 1);
                asked.tell(x -> x.guard(edge, clock, sort, c));
            }
        }
        for (int l = random.nextInt(3); l > 0; l--) {
            int m = random.nextInt(2), p = random.nextInt(3), clock = 1 + random.nextInt(3);
            int sort = random.nextInt(2);
            asked.tell(x -> x.limit(m, p, clock, sort, most));
        }
    }

    private static int together(int a, int b) {
        if (a == OPEN || b == OPEN) {
            return OPEN;
        }
        boolean justThat = a % 2 != 0 && b % 2 != 0;
        return 2 * (Math.floorDiv(a, 2) + Math.floorDiv(b, 2)) + (justThat ? 1 : 0);
    }

    private static void closed(int run) {
        Asked asked = new Asked();
        tell(new Random(run), asked);
        asked.tell(x -> x.explore(30));
        int states = asked.ask(x -> x.count(3));
        for (int state = 0; state < states; state++) {
            int i = state;
            int[] b = new int[16];
            for (int k = 0; k < 16; k++) {
                int pair = k;
                b[k] = asked.ask(x -> x.bound(i, pair / 4, pair % 4));
            }
            boolean holds = true;
            for (int k = 0; k < 64; k++) {
                int x = k / 16, y = k / 4 % 4, z = k % 4;
                holds &= b[4 * x + z] <= together(b[4 * x + y], b[4 * y + z]);
            }
            Due.hold("net " + run + ": state " + i + " is closed", holds);
        }
    }

    private static void justOneWay() {
        Said.that("BOUNDS of a CLOSED ZONE that is not empty are just one way to tell it.");
        ClockZones x = new ClockZones();
        x.edge(0, 0, 1, 0, 0);
        x.edge(0, 0, 1, 0, 0);
        x.guard(0, 1, 3, 2);
        x.guard(1, 2, 3, 2);
        x.limit(0, 0, 1, 1, 4);
        x.limit(0, 1, 3, 1, 4);
        Due.be("told by clock 1, told by clock 2", x.explore(120), 2);
        bounds("one way", x, 1, 1, -3, -3, -3, 9, 1, 1, 1, 9, 1, 1, 1, 9, 1, 1, 1);
    }

    // ---- the greatest numbers and widening

    private static void greatest() {
        Said.that("GREATEST of a CLOCK: the greatest number of all TESTS of it in THE NET;");
        for (int sort = 0; sort <= 4; sort++) {
            ClockZones x = new ClockZones();
            x.edge(2, 5, 5, -4, 0);
            x.guard(0, 2, sort, 7);
            Due.be("a guard of sort " + sort, x.greatest(2), 7);
            x.guard(0, 2, sort, 6);
            Due.be("a smaller one", x.greatest(2), 7);
            x.limit(2, 5, 2, sort & 1, 7);
            Due.be("a limit of the same number", x.greatest(2), 7);
            x.limit(2, 5, 2, sort & 1, 8);
            Due.be("a limit that is greater", x.greatest(2), 8);
            x.edge(0, 0, 0, 0, 0);
            x.guard(1, 2, sort, 1000);
            Due.be("the greatest that there may be", x.greatest(2), 1000);
            Due.be("another clock", x.greatest(1), 0);
            x.wipe();
            Due.be("all are gone", x.greatest(2), 0);
        }
    }

    private static void greatestWithoutAny() {
        Said.that("0 without any.");
        ClockZones x = new ClockZones();
        x.edge(0, 0, 1, 0, 2);
        x.edge(0, 1, 2, 0, 0);
        for (int clock = 1; clock <= 3; clock++) {
            Due.be("greatest(" + clock + ")", x.greatest(clock), 0);
        }
        Due.be("explore(9)", x.explore(9), 3);
        bounds("without any", x, 1, 1, 1, 1, 1, OPEN, 1, 1, 1, OPEN, OPEN, 1, 1, OPEN, OPEN, 1, 1);
    }

    /**
     * A guard of one clock tells how far the wide clock is ahead when the other two are set back:
     * that number is one less than, just, or one more than the greatest of the wide clock.
     */
    private static void widenedAboveAndBelow() {
        Said.that("WIDENED: in a CLOSED ZONE, for each x of 1 to 3 and y of 0 to 3 (not x):");
        for (int wide = 1; wide <= 3; wide++) {
            for (int c : new int[] {1, 5, 999}) {
                for (int sort = 0; sort <= 4; sort++) {
                    for (int most = c - 1; most <= c + 1; most++) {
                        widened(wide, c, sort, most);
                    }
                }
            }
        }
    }

    private static void widened(int wide, int c, int sort, int most) {
        int asked = wide % 3 + 1, other = asked % 3 + 1;
        ClockZones x = new ClockZones();
        x.edge(0, 0, 1, 0, 14 - (1 << wide));
        x.guard(0, asked, sort, c);
        x.limit(2, 5, wide, 1, most);
        x.limit(2, 5, other, 1, 1000);
        Due.be("explore(9)", x.explore(9), 2);
        int[] ahead = {2 * c, 2 * c + 1, 2 * c + 1, OPEN, OPEN};
        int[] behind = {1, 1, -2 * c + 1, -2 * c + 1, -2 * c};
        int upper = sort <= 2 && c > most ? OPEN : ahead[sort];
        int lower = sort >= 2 && -c < -most ? -2 * most : behind[sort];
        String name = "clock " + wide + ", sort " + sort + " of " + c + ", greatest " + most + ": ";
        Said.that("a BOUND of x less y whose number is above GREATEST of x becomes none;");
        Due.be(name + "less " + asked, x.bound(1, wide, asked), upper);
        Due.be(name + "less " + other, x.bound(1, wide, other), upper);
        Due.be(name + "less 0", x.bound(1, wide, 0), OPEN);
        Said.that("a BOUND of y less x whose number is below 0 less GREATEST of x becomes: below 0 less"
            + " GREATEST;");
        Due.be(name + asked + " less it", x.bound(1, asked, wide), lower);
        Due.be(name + other + " less it", x.bound(1, other, wide), lower);
        Due.be(name + "0 less it", x.bound(1, 0, wide), lower);
    }

    /** Two clocks that are alike: closed between both, each would be told again by the other. */
    private static void widenedAtOnce() {
        Said.that("all by what was ahead;");
        for (int set = 1; set <= 3; set++) {
            int a = set % 3 + 1, b = a % 3 + 1;
            ClockZones x = new ClockZones();
            x.edge(0, 0, 1, 0, 1 << set);
            x.guard(0, set, 2, 6);
            Due.be("explore(9)", x.explore(9), 2);
            Due.be("the one less what was set", x.bound(1, a, set), OPEN);
            Due.be("the other less what was set", x.bound(1, b, set), OPEN);
            Due.be("what was set less the one", x.bound(1, set, a), 0);
            Due.be("what was set less the other", x.bound(1, set, b), 0);
            Due.be("0 less the one", x.bound(1, 0, a), 0);
            Due.be("the one less the other", x.bound(1, a, b), 1);
            Due.be("the other less the one", x.bound(1, b, a), 1);
        }
    }

    private static void closedAgain() {
        Said.that("then it is CLOSED again.");
        ClockZones x = new ClockZones();
        x.limit(0, 0, 1, 1, 5);
        x.limit(0, 5, 2, 1, 2);
        x.explore(1);
        bounds("told again by clock 1", x, 0, 1, 1, 1, 1, 11, 1, 1, 1, 11, 1, 1, 1, 11, 1, 1, 1);
        x = new ClockZones();
        x.edge(0, 0, 1, 0, 4);
        x.guard(0, 1, 2, 3);
        x.edge(0, 1, 2, 0, 8);
        x.guard(1, 1, 2, 5);
        x.guard(1, 2, 2, 2);
        x.edge(0, 2, 3, 0, 0);
        x.guard(2, 3, 3, 1);
        Due.be("explore(9)", x.explore(9), 4);
        // The greatest numbers are 5, 2 and 1; clock 3 less 2 is told again by clock 1.
        bounds("a chain", x, 1, 1, -5, 1, -5, OPEN, 1, 7, 1, OPEN, -5, 1, -5, OPEN, 1, 7, 1);
        bounds("a chain", x, 2, 1, -9, -3, 1, OPEN, 1, 7, 11, OPEN, -5, 1, 5, OPEN, -9, -3, 1);
        bounds("a chain", x, 3, 1, -11, -5, -1, OPEN, 1, 7, 11, OPEN, -5, 1, 5, OPEN, -9, -3, 1);
    }

    private static void beyond() {
        ClockZones x = new ClockZones();
        x.edge(0, 0, 1, 0, 2);
        x.guard(0, 2, 2, 7);
        x.edge(0, 1, 2, 0, 2);
        x.guard(1, 1, 2, 3);
        x.limit(0, 1, 1, 1, 3);
        x.limit(0, 2, 1, 1, 3);
        Due.be("explore(9)", x.explore(9), 3);
        // Clock 2 is 7 ahead of clock 1, which is no more than 7: it stays.
        bounds("7 ahead", x, 1, 1, 1, -13, -13, 7, 1, -13, -13, 21, 15, 1, 1, 21, 15, 1, 1);
        // Then it is 10 ahead: beyond 7 nothing is known but that it is above 7.
        bounds("10 ahead", x, 2, 1, 1, -14, -14, 7, 1, -14, -14, OPEN, OPEN, 1, 1, OPEN, OPEN, 1, 1);
    }

    // ---- states

    private static void numbersOfStates() {
        Said.that("STATES (120 at most, numbered as they are met): a PLACE of each MACHINE and a ZONE.");
        ClockZones x = Nets.walkers(6, 6, 6);
        Due.be("explore(120) of 216", x.explore(120), -121);
        Due.be("count(3)", x.count(3), 120);
        Due.be("state(119, 6)", x.state(119, 6) >= x.state(118, 6) ? 1 : 0, 1);
        Due.be("state(120, 0)", x.state(120, 0), UNKNOWN);
        for (int i = 1; i < 120; i++) {
            Due.hold("state " + i + " comes from an earlier one", x.state(i, 3) < i);
        }
        for (int i = 2; i < 120; i++) {
            Due.hold("state " + i + " is met in order", x.state(i - 1, 3) <= x.state(i, 3));
        }
    }

    private static void firstState() {
        Said.that("STATE 0: PLACES 0, the ZONE of CLOCKS 0, LIMITS kept;");
        ClockZones x = new ClockZones();
        x.limit(0, 0, 1, 1, 0);
        x.limit(1, 0, 2, 0, 1000);
        Due.be("explore(5)", x.explore(5), 1);
        for (int m = 0; m < 3; m++) {
            Due.be("state(0, " + m + ")", x.state(0, m), 0);
        }
        bounds("at most 0", x, 0, new int[] {1, 1, 1, 1, 1, 1, 1, 1, 1, 1, 1, 1, 1, 1, 1, 1});
    }

    private static void later() {
        Said.that("then LATER: time goes by (BOUNDS of a CLOCK less 0 become none), LIMITS kept, WIDENED.");
        ClockZones x = new ClockZones();
        x.limit(1, 1, 2, 0, 0);
        x.explore(5);
        bounds("no limits of places 0", x, 0, 1, 1, 1, 1, OPEN, 1, 1, 1, OPEN, 1, 1, 1, OPEN, 1, 1, 1);
        x.limit(1, 0, 2, 0, 1000);
        x.explore(5);
        bounds("below 1000", x, 0, 1, 1, 1, 1, 2000, 1, 1, 1, 2000, 1, 1, 1, 2000, 1, 1, 1);
        x.limit(1, 0, 3, 1, 999);
        x.explore(5);
        bounds("999 at most", x, 0, 1, 1, 1, 1, 1999, 1, 1, 1, 1999, 1, 1, 1, 1999, 1, 1, 1);
        x.limit(0, 0, 1, 0, 1);
        x.explore(5);
        bounds("below 1", x, 0, 1, 1, 1, 1, 2, 1, 1, 1, 2, 1, 1, 1, 2, 1, 1, 1);
    }

    private static void stateByState() {
        Said.that("Then, STATE by STATE in order, of each MOVE in order that there is: its ZONE with all GUARDS"
            + " kept, CLOCKS of RESETS set to 0, LIMITS of the new PLACES kept, LATER;");
        ClockZones x = new ClockZones();
        x.edge(0, 1, 2, 0, 0);
        x.edge(0, 0, 1, 0, 0);
        x.edge(0, 0, 3, 0, 0);
        x.edge(0, 3, 4, 0, 0);
        x.edge(0, 1, 5, 0, 0);
        Due.be("explore(9)", x.explore(9), 6);
        int[][] due = {{0, NONE, NONE}, {1, 0, 1}, {3, 0, 2}, {2, 1, 0}, {5, 1, 4}, {4, 2, 3}};
        for (int i = 0; i < 6; i++) {
            Due.be("the place of state " + i, x.state(i, 0), due[i][0]);
            Due.be("from where", x.state(i, 3), due[i][1]);
            Due.be("by which edge", x.state(i, 4), due[i][2]);
        }
    }

    private static void guardsThenResetsThenLimits() {
        ClockZones x = new ClockZones();
        x.edge(1, 0, 3, 0, 4);
        x.guard(0, 1, 4, 2);
        x.guard(0, 1, 1, 6);
        x.limit(1, 3, 2, 1, 5);
        Due.be("explore(9)", x.explore(9), 2);
        // Clock 1 is above 2 and at most 6 when clock 2 is set back. Clock 3 has no test: what is
        // widened of it is told again by clock 1, from which it never differs.
        bounds("in this order", x, 1, 1, -4, 1, -4, 23, 1, 13, 1, 11, -4, 1, -4, 23, 1, 13, 1);
        x.wipe();
        x.edge(0, 0, 1, 0, 2);
        x.guard(0, 1, 3, 5);
        x.limit(0, 1, 1, 1, 0);
        x.limit(1, 0, 2, 1, 7);
        Due.be("a guard and a limit of the clock set back", x.explore(9), 2);
        bounds("set back", x, 1, 1, 1, -9, -9, 1, 1, -9, -9, 15, 15, 1, 1, 15, 15, 1, 1);
    }

    private static boolean holds(int sort, int c, int amount) {
        boolean[] all = {amount < 64 * c, amount <= 64 * c, amount == 64 * c, amount >= 64 * c,
            amount > 64 * c};
        return all[sort];
    }

    private static void emptyByTwoGuards() {
        Said.that("if it is not empty at any of these,");
        for (int k = 0; k < 25 * 16; k++) {
            int s = k % 5, t = k / 5 % 5, c = k / 25 % 4, d = k / 100;
            ClockZones x = new ClockZones();
            x.edge(0, 0, 1, 0, 0);
            x.guard(0, 1, s, c);
            x.guard(0, 2, t, d);
            boolean any = false;
            for (int amount = 0; amount <= 64 * 4; amount++) {
                any |= holds(s, c, amount) && holds(t, d, amount);
            }
            Due.be("sort " + s + " of " + c + " and sort " + t + " of " + d, x.explore(9), any ? 2 : 1);
        }
    }

    private static void emptyByALimitBehind() {
        for (int k = 0; k < 10 * 16; k++) {
            int s = k % 5, t = k / 5 % 2, c = k / 10 % 4, d = k / 40;
            boolean any = false;
            for (int amount = 0; amount <= 64 * 4; amount++) {
                any |= holds(s, c, amount) && holds(t, d, amount);
            }
            String name = "sort " + s + " of " + c + ", limit " + t + " of " + d;
            ClockZones x = new ClockZones();
            x.edge(0, 0, 1, 0, 0);
            x.guard(0, 1, s, c);
            x.limit(0, 1, 1, t, d);
            Due.be(name, x.explore(9), any ? 2 : 1);
            x.edge(0, 0, 2, 0, 2);
            x.guard(1, 1, s, c);
            x.limit(0, 2, 1, t, d);
            boolean set = (s != 0 || c > 0) && (t != 0 || d > 0);
            Due.be(name + ", set back", x.explore(9), 1 + (any ? 1 : 0) + (set ? 1 : 0));
        }
    }

    private static void emptyByTheAnswer() {
        ClockZones x = new ClockZones();
        x.edge(0, 0, 1, 1, 0);
        x.edge(1, 0, 1, -1, 0);
        x.guard(0, 1, 3, 3);
        x.guard(1, 3, 1, 3);
        Due.be("just 3", x.explore(9), 2);
        x.guard(1, 3, 0, 3);
        Due.be("below 3 and 3 at least", x.explore(9), 1);
        x.wipe();
        x.edge(0, 0, 1, 1, 0);
        x.edge(1, 0, 1, -1, 0);
        x.limit(1, 1, 3, 0, 3);
        x.guard(0, 1, 3, 3);
        Due.be("a limit of the one that answers", x.explore(9), 1);
        x.wipe();
        x.edge(0, 0, 1, 0, 0);
        x.limit(2, 0, 1, 1, 4);
        x.guard(0, 2, 4, 4);
        Due.be("a limit of a machine that stands", x.explore(9), 1);
    }

    private static void covered() {
        Said.that("and no STATE met so far has these PLACES and a ZONE that has all of this one: the next"
            + " STATE.");
        ClockZones x = new ClockZones();
        x.edge(0, 0, 1, 0, 0);
        x.guard(0, 1, 3, 2);
        x.edge(0, 0, 1, 0, 0);
        x.guard(1, 1, 3, 2);
        Due.be("the same zone", x.explore(120), 2);
        x.edge(0, 0, 1, 0, 0);
        x.guard(2, 1, 4, 2);
        Due.be("a narrower zone", x.explore(120), 2);
        x.edge(0, 0, 1, 0, 0);
        x.guard(3, 1, 4, 1);
        Due.be("a wider zone", x.explore(120), 3);
        x.edge(0, 0, 1, 0, 0);
        x.guard(4, 1, 3, 1);
        Due.be("the widest by one point", x.explore(120), 4);
        int[] due = {1, -3, -2, -1};
        for (int i = 0; i < 4; i++) {
            Due.be("all of them stay: bound(" + i + ", 0, 1)", x.bound(i, 0, 1), due[i]);
        }
        x.wipe();
        x.edge(0, 0, 1, 0, 14);
        x.guard(0, 1, 2, 5);
        x.edge(0, 0, 1, 0, 0);
        x.edge(0, 1, 0, 0, 14);
        Due.be("state 0 has it all", x.explore(120), 2);
    }

    private static void coveredByTwoTogether() {
        ClockZones x = new ClockZones();
        for (int e = 0; e < 3; e++) {
            x.edge(0, 0, 1, 0, 2);
        }
        x.guard(0, 3, 1, 2);
        x.guard(1, 3, 3, 2);
        Due.be("two zones together do not count", x.explore(120), 4);
        Due.be("bound(1, 3, 1)", x.bound(1, 3, 1), 5);
        Due.be("bound(2, 1, 3)", x.bound(2, 1, 3), -3);
        Due.be("bound(3, 3, 1)", x.bound(3, 3, 1), OPEN);
    }

    private static void otherPlaces() {
        for (int m = 0; m < 3; m++) {
            ClockZones x = new ClockZones();
            x.edge(m, 0, 1, 0, 0);
            x.edge(m, 0, 2, 0, 0);
            Due.be("the same zone at another place", x.explore(120), 3);
            for (int k = 0; k < 16; k++) {
                Due.be("bound", x.bound(1, k / 4, k % 4), x.bound(2, k / 4, k % 4));
            }
        }
    }

    private static void noFirstState() {
        Said.that("(STATE 0 is not met, if LIMITS do not hold then: there are none.)");
        ClockZones x = new ClockZones();
        x.edge(0, 0, 1, 0, 14);
        x.limit(2, 0, 3, 0, 0);
        Due.be("explore(1)", x.explore(1), 0);
        Due.be("explore(120)", x.explore(120), 0);
        Due.be("count(3)", x.count(3), 0);
        Due.be("count(5)", x.count(5), 0);
        Due.be("state(0, 0)", x.state(0, 0), UNKNOWN);
        Due.be("bound(0, 0, 0)", x.bound(0, 0, 0), 100002);
        Due.be("has(0, 0, 0, 0)", x.has(0, 0, 0, 0), UNKNOWN);
        Due.be("reach(-1, -1, -1)", x.reach(-1, -1, -1), NONE);
        Due.be("way(0, 0, 0)", x.way(0, 0, 0), UNKNOWN);
        Due.be("moment(0, 0)", x.moment(0, 0), UNKNOWN);
    }
}
