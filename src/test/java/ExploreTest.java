/** Promises 6 to 10: states, their bounds, and what is asked of them. */
public final class ExploreTest {
    private static final int NONE = ClockZones.NONE;
    private static final int UNKNOWN = ClockZones.UNKNOWN;
    private static final int OUTSIDE = ClockZones.OUTSIDE;
    private static final int FULL = ClockZones.FULL;
    private static final int OPEN = 100000;
    private static final int LEAST = Integer.MIN_VALUE;
    private static final int MOST = Integer.MAX_VALUE;

    public static void main(String[] args) {
        emptyNet();
        noFirstState();
        firstStateKeepsLimits();
        guardsAndResets();
        everySort();
        limitsBehindAMove();
        widening();
        wideningBeyond();
        orderOfMoves();
        coveredStates();
        emptyMoves();
        longestWay();
        howManyAreKept();
        howOften();
        reach();
        has();
        refusals();
        Due.done();
    }

    private static void bounds(String name, ClockZones x, int i, int[] due) {
        for (int k = 0; k < 16; k++) {
            Due.be(name + ": bound(" + i + ", " + k / 4 + ", " + k % 4 + ")",
                x.bound(i, k / 4, k % 4), due[k]);
        }
    }

    private static void facts(String name, ClockZones x, int i, int[] due) {
        for (int what = 0; what < 7; what++) {
            Due.be(name + ": state(" + i + ", " + what + ")", x.state(i, what), due[what]);
        }
    }

    private static void emptyNet() {
        ClockZones x = new ClockZones();
        Due.be("empty: explore(1)", x.explore(1), 1);
        facts("empty", x, 0, new int[] {0, 0, 0, NONE, NONE, NONE, 0});
        bounds("empty", x, 0, new int[] {
            1, 1, 1, 1, OPEN, 1, 1, 1, OPEN, 1, 1, 1, OPEN, 1, 1, 1});
        Due.be("empty: count(3)", x.count(3), 1);
        Due.be("empty: count(5)", x.count(5), 0);
        Due.be("empty: count(6)", x.count(6), 1);
    }

    private static void noFirstState() {
        ClockZones x = new ClockZones();
        x.limit(2, 0, 3, 0, 0);
        Due.be("below 0: explore(120)", x.explore(120), 0);
        Due.be("below 0: count(5)", x.count(5), 0);
        Due.be("below 0: state(0, 0)", x.state(0, 0), UNKNOWN);
        Due.be("below 0: bound(0, 0, 0)", x.bound(0, 0, 0), 100002);
        Due.be("below 0: has(0, 0, 0, 0)", x.has(0, 0, 0, 0), UNKNOWN);
        Due.be("below 0: reach(0, 0, 0)", x.reach(0, 0, 0), NONE);
        Due.be("below 0: way(0, 0, 0)", x.way(0, 0, 0), UNKNOWN);
        Due.be("below 0: moment(0, 0)", x.moment(0, 0), UNKNOWN);
    }

    private static void firstStateKeepsLimits() {
        ClockZones x = new ClockZones();
        x.limit(0, 0, 1, 1, 0);
        x.limit(1, 0, 2, 0, 1000);
        x.explore(5);
        bounds("limits", x, 0, new int[] {1, 1, 1, 1, 1, 1, 1, 1, 1, 1, 1, 1, 1, 1, 1, 1});
        x.wipe();
        x.limit(1, 0, 2, 0, 1000);
        x.explore(5);
        bounds("limits", x, 0, new int[] {
            1, 1, 1, 1, 2000, 1, 1, 1, 2000, 1, 1, 1, 2000, 1, 1, 1});
    }

    private static void guardsAndResets() {
        ClockZones x = new ClockZones();
        x.edge(1, 0, 3, 0, 4);
        x.guard(0, 1, 4, 2);
        x.guard(0, 1, 1, 6);
        x.limit(1, 3, 2, 1, 5);
        Due.be("resets: explore(9)", x.explore(9), 2);
        facts("resets", x, 1, new int[] {0, 3, 0, 0, 0, NONE, 1});
        // Clock 1 is above 2 and at most 6 when clock 2 is set back. Clock 3 has no test: what is
        // widened of it is told again by clock 1, from which it never differs.
        bounds("resets", x, 1, new int[] {
            1, -4, 1, -4,
            23, 1, 13, 1,
            11, -4, 1, -4,
            23, 1, 13, 1});
    }

    private static void everySort() {
        int[] most = {18, 19, 19, OPEN, OPEN};
        int[] least = {1, 1, -17, -17, -18};
        for (int sort = 0; sort <= 4; sort++) {
            ClockZones x = new ClockZones();
            x.edge(0, 0, 1, 0, 8);
            x.guard(0, 2, sort, 9);
            Due.be("sort " + sort + ": explore(9)", x.explore(9), 2);
            Due.be("sort " + sort + ": clock 2 less clock 3", x.bound(1, 2, 3), most[sort]);
            Due.be("sort " + sort + ": 0 less clock 2", x.bound(1, 0, 2), least[sort]);
            Due.be("sort " + sort + ": clock 2 less 0", x.bound(1, 2, 0), OPEN);
        }
    }

    private static void limitsBehindAMove() {
        ClockZones x = new ClockZones();
        x.edge(0, 0, 1, 0, 0);
        x.guard(0, 1, 3, 5);
        x.limit(0, 1, 1, 0, 5);
        Due.be("behind: explore(9)", x.explore(9), 1);
        x.limit(2, 0, 1, 1, 4);
        x.edge(0, 0, 2, 0, 0);
        x.edge(0, 0, 2, 0, 0);
        x.guard(1, 1, 4, 4);
        Due.be("behind: limits of a machine that stands", x.explore(9), 2);
        Due.be("behind: state(1, 4)", x.state(1, 4), 2);
        x.wipe();
        x.edge(0, 0, 1, 0, 2);
        x.guard(0, 1, 3, 5);
        x.limit(0, 1, 1, 1, 0);
        Due.be("behind: a clock set back first", x.explore(9), 2);
        Due.be("behind: bound(1, 1, 0)", x.bound(1, 1, 0), 1);
        Due.be("behind: bound(1, 0, 2)", x.bound(1, 0, 2), 0);
    }

    private static void widening() {
        ClockZones x = new ClockZones();
        x.edge(0, 0, 1, 0, 4);
        x.guard(0, 1, 2, 3);
        x.edge(0, 1, 2, 0, 8);
        x.guard(1, 1, 2, 5);
        x.guard(1, 2, 2, 2);
        x.edge(0, 2, 3, 0, 0);
        x.guard(2, 3, 3, 1);
        Due.be("widened: explore(9)", x.explore(9), 4);
        // The greatest numbers are 5, 2 and 1; clock 3 less 2 is told again by clock 1.
        bounds("widened", x, 1, new int[] {
            1, -5, 1, -5,
            OPEN, 1, 7, 1,
            OPEN, -5, 1, -5,
            OPEN, 1, 7, 1});
        bounds("widened", x, 2, new int[] {
            1, -9, -3, 1,
            OPEN, 1, 7, 11,
            OPEN, -5, 1, 5,
            OPEN, -9, -3, 1});
        bounds("widened", x, 3, new int[] {
            1, -11, -5, -1,
            OPEN, 1, 7, 11,
            OPEN, -5, 1, 5,
            OPEN, -9, -3, 1});
    }

    private static void wideningBeyond() {
        ClockZones x = new ClockZones();
        x.edge(0, 0, 1, 0, 2);
        x.guard(0, 2, 2, 7);
        x.edge(0, 1, 2, 0, 2);
        x.guard(1, 1, 2, 3);
        x.limit(0, 1, 1, 1, 3);
        x.limit(0, 2, 1, 1, 3);
        Due.be("beyond: explore(9)", x.explore(9), 3);
        // Clock 2 is 7 ahead of clock 1, which is no more than 7: it stays.
        bounds("beyond", x, 1, new int[] {
            1, 1, -13, -13,
            7, 1, -13, -13,
            21, 15, 1, 1,
            21, 15, 1, 1});
        // Then it is 10 ahead: beyond 7 nothing is known but that it is above 7.
        bounds("beyond", x, 2, new int[] {
            1, 1, -14, -14,
            7, 1, -14, -14,
            OPEN, OPEN, 1, 1,
            OPEN, OPEN, 1, 1});
    }

    private static void orderOfMoves() {
        ClockZones x = new ClockZones();
        x.edge(2, 0, 1, -1, 0);
        x.edge(1, 0, 2, -1, 0);
        x.edge(0, 0, 3, 0, 0);
        x.edge(0, 0, 4, 1, 0);
        x.edge(1, 0, 5, -1, 0);
        Due.be("order: count(4)", x.count(4), 4);
        Due.be("order: explore(120)", x.explore(120), 5);
        facts("order", x, 1, new int[] {3, 0, 0, 0, 2, NONE, 1});
        facts("order", x, 2, new int[] {4, 0, 1, 0, 3, 0, 1});
        facts("order", x, 3, new int[] {4, 2, 0, 0, 3, 1, 1});
        facts("order", x, 4, new int[] {4, 5, 0, 0, 3, 4, 1});
    }

    private static void coveredStates() {
        ClockZones x = new ClockZones();
        x.edge(0, 0, 1, 0, 0);
        x.guard(0, 1, 1, 5);
        x.edge(0, 0, 1, 0, 0);
        x.guard(1, 1, 1, 4);
        x.edge(0, 0, 1, 0, 0);
        x.guard(2, 1, 3, 5);
        x.edge(0, 0, 1, 0, 0);
        x.guard(3, 1, 4, 6);
        Due.be("covered: explore(120)", x.explore(120), 2);
        x.wipe();
        x.edge(0, 0, 1, 0, 14);
        x.guard(0, 1, 2, 5);
        x.edge(0, 0, 1, 0, 0);
        x.edge(0, 1, 0, 0, 14);
        Due.be("covered: a wider zone is met later", x.explore(120), 2);
        x.wipe();
        x.edge(0, 0, 1, 0, 0);
        x.guard(0, 1, 3, 2);
        x.edge(0, 0, 1, 0, 0);
        x.guard(1, 1, 3, 1);
        Due.be("covered: the narrower zone stays", x.explore(120), 3);
        Due.be("covered: bound(1, 0, 1)", x.bound(1, 0, 1), -3);
        Due.be("covered: bound(2, 0, 1)", x.bound(2, 0, 1), -1);
    }

    private static void emptyMoves() {
        ClockZones x = new ClockZones();
        x.edge(0, 0, 1, 0, 0);
        x.guard(0, 1, 0, 3);
        x.guard(0, 2, 3, 3);
        x.edge(0, 0, 2, 0, 0);
        x.guard(1, 1, 1, 3);
        x.guard(1, 2, 3, 3);
        x.edge(0, 0, 3, 0, 0);
        x.guard(2, 1, 0, 0);
        x.edge(0, 0, 4, 0, 0);
        x.guard(3, 1, 1, 0);
        Due.be("empty moves: explore(120)", x.explore(120), 3);
        Due.be("empty moves: state(1, 0)", x.state(1, 0), 2);
        Due.be("empty moves: state(2, 0)", x.state(2, 0), 4);
    }

    /** Machines that walk freely through their first places: one state for each choice of them. */
    private static ClockZones walkers(int a, int b, int c) {
        ClockZones x = new ClockZones();
        int[] places = {a, b, c};
        for (int m = 0; m < 3; m++) {
            for (int p = 1; p < places[m]; p++) {
                x.edge(m, p - 1, p, 0, 0);
            }
        }
        return x;
    }

    private static void longestWay() {
        ClockZones x = new ClockZones();
        x.edge(0, 0, 0, 0, 2);
        x.guard(0, 1, 2, 1);
        x.limit(0, 0, 1, 1, 1);
        x.limit(2, 5, 2, 1, 1000);
        Due.be("longest: explore(120)", x.explore(120), 41);
        Due.be("longest: explore(41)", x.explore(41), 41);
        Due.be("longest: explore(40)", x.explore(40), -41);
        Due.be("longest: explore(120)", x.explore(120), 41);
        Due.be("longest: state(40, 6)", x.state(40, 6), 40);
        Due.be("longest: state(41, 6)", x.state(41, 6), UNKNOWN);
        Due.be("longest: bound(40, 2, 1)", x.bound(40, 2, 1), 81);
        Due.be("longest: moment(40, 39)", x.moment(40, 39), 2560);
        Due.be("longest: moment(40, 40)", x.moment(40, 40), UNKNOWN);
        Due.be("longest: way(40, 39, 0)", x.way(40, 39, 0), 0);
    }

    private static void howManyAreKept() {
        ClockZones x = walkers(6, 5, 4);
        Due.be("kept: explore(120) of 120", x.explore(120), 120);
        Due.be("kept: explore(119) of 120", x.explore(119), -120);
        Due.be("kept: reach(5, 4, 3)", x.reach(5, 4, 3), NONE);
        x.explore(120);
        Due.be("kept: reach(5, 4, 3)", x.reach(5, 4, 3), 119);
        Due.be("kept: state(119, 6)", x.state(119, 6), 12);
        x = walkers(6, 5, 5);
        Due.be("kept: explore(120)", x.explore(120), -121);
        Due.be("kept: count(3)", x.count(3), 120);
        Due.be("kept: state(119, 2)", x.state(119, 2) >= 0 ? 1 : 0, 1);
        Due.be("kept: state(120, 2)", x.state(120, 2), UNKNOWN);
        long[] first = new long[5];
        for (int i = 0; i < 5; i++) {
            first[i] = 100 * x.state(i, 3) + x.state(i, 4);
        }
        Due.be("kept: explore(5)", x.explore(5), -6);
        Due.be("kept: count(3)", x.count(3), 5);
        Due.be("kept: count(5)", x.count(5), 0);
        for (int i = 0; i < 5; i++) {
            Due.be("kept: state " + i, 100 * x.state(i, 3) + x.state(i, 4), first[i]);
        }
        Due.be("kept: state(5, 0)", x.state(5, 0), UNKNOWN);
        ClockZones one = new ClockZones();
        one.edge(0, 0, 1, 0, 0);
        Due.be("kept: explore(1) of two", one.explore(1), -2);
        Due.be("kept: explore(2) of two", one.explore(2), 2);
    }

    private static void howOften() {
        ClockZones x = new ClockZones();
        for (int i = 0; i < 40; i++) {
            if (i == 20) {
                x.wipe();
            }
            Due.be("often: explore(0)", x.explore(0), OUTSIDE);
            Due.be("often: explore(3)", x.explore(3), 1);
            Due.be("often: count(6)", x.count(6), i + 1);
        }
        Due.be("often: the 41st", x.explore(3), FULL);
        Due.be("often: the 41st of 121", x.explore(121), OUTSIDE);
        Due.be("often: the states stay", x.state(0, 6), 0);
        Due.be("often: count(6)", x.count(6), 40);
        x.wipe();
        Due.be("often: behind wipe()", x.explore(3), FULL);
        Due.be("often: count(5)", x.count(5), 1);
    }

    private static void reach() {
        ClockZones x = new ClockZones();
        x.edge(0, 0, 5, 0, 0);
        x.edge(1, 0, 5, 0, 0);
        x.edge(2, 0, 5, 0, 0);
        Due.be("reach: explore(120)", x.explore(120), 8);
        Due.be("reach(-1, -1, -1)", x.reach(-1, -1, -1), 0);
        Due.be("reach(5, -1, -1)", x.reach(5, -1, -1), 1);
        Due.be("reach(-1, 5, -1)", x.reach(-1, 5, -1), 2);
        Due.be("reach(-1, -1, 5)", x.reach(-1, -1, 5), 3);
        Due.be("reach(5, 5, -1)", x.reach(5, 5, -1), 4);
        Due.be("reach(5, 0, 5)", x.reach(5, 0, 5), 5);
        Due.be("reach(0, 5, 5)", x.reach(0, 5, 5), 6);
        Due.be("reach(5, 5, 5)", x.reach(5, 5, 5), 7);
        Due.be("reach(1, -1, -1)", x.reach(1, -1, -1), NONE);
        Due.be("reach(5, 4, 5)", x.reach(5, 4, 5), NONE);
        for (int bad : new int[] {-2, 6, LEAST, MOST}) {
            Due.be("reach(" + bad + ", 0, 0)", x.reach(bad, 0, 0), OUTSIDE);
            Due.be("reach(0, " + bad + ", 0)", x.reach(0, bad, 0), OUTSIDE);
            Due.be("reach(0, 0, " + bad + ")", x.reach(0, 0, bad), OUTSIDE);
        }
    }

    private static void has() {
        ClockZones x = new ClockZones();
        x.edge(0, 0, 1, 0, 4);
        x.guard(0, 1, 0, 2);
        x.guard(0, 1, 4, 1);
        x.limit(0, 1, 2, 1, 3);
        x.limit(1, 5, 3, 1, 1000);
        Due.be("has: explore(9)", x.explore(9), 2);
        int[][] in = {{65, 0, 65}, {127, 0, 127}, {65 + 192, 192, 65 + 192}, {319, 192, 319}};
        int[][] out = {{64, 0, 64}, {128, 0, 128}, {65, 0, 66}, {66, 0, 65}, {320, 193, 320},
            {320, 192, 320}, {256, 192, 256}, {0, 0, 0}, {1000000, 1000000, 1000000}};
        for (int[] a : in) {
            Due.be("has(1, " + a[0] + ", " + a[1] + ", " + a[2] + ")",
                x.has(1, a[0], a[1], a[2]), 1);
        }
        for (int[] a : out) {
            Due.be("has(1, " + a[0] + ", " + a[1] + ", " + a[2] + ")",
                x.has(1, a[0], a[1], a[2]), 0);
        }
        Due.be("has(0, most)", x.has(0, 1000000, 1000000, 1000000), 1);
        Due.be("has(0, 999999, ..)", x.has(0, 999999, 1000000, 1000000), 0);
        for (int bad : new int[] {-1, 1000001, LEAST, MOST}) {
            Due.be("has(0, " + bad + ", 0, 0)", x.has(0, bad, 0, 0), OUTSIDE);
            Due.be("has(0, 0, " + bad + ", 0)", x.has(0, 0, bad, 0), OUTSIDE);
            Due.be("has(0, 0, 0, " + bad + ")", x.has(0, 0, 0, bad), OUTSIDE);
            Due.be("has(2, " + bad + ", 0, 0)", x.has(2, bad, 0, 0), UNKNOWN);
        }
    }

    private static void refusals() {
        ClockZones x = new ClockZones();
        for (int bad : new int[] {-1, 0, 121, LEAST, MOST}) {
            Due.be("explore(" + bad + ")", x.explore(bad), OUTSIDE);
        }
        Due.be("count(6) behind refusals", x.count(6), 0);
        Due.be("count(5) behind refusals", x.count(5), 1);
        Due.be("state(-1, -1) before", x.state(-1, -1), ClockZones.STATE);
        Due.be("bound(-1, -1, -1) before", x.bound(-1, -1, -1), 100001);
        Due.be("reach(9, 9, 9) before", x.reach(9, 9, 9), ClockZones.STATE);
        Due.be("has(9, -1, 0, 0) before", x.has(9, -1, 0, 0), ClockZones.STATE);
        x.explore(120);
        for (int bad : new int[] {-1, 1, 120, LEAST, MOST}) {
            Due.be("state(" + bad + ", 9)", x.state(bad, 9), UNKNOWN);
            Due.be("bound(" + bad + ", 0, 0)", x.bound(bad, 0, 0), 100002);
            Due.be("has(" + bad + ", 0, 0, 0)", x.has(bad, 0, 0, 0), UNKNOWN);
        }
        for (int bad : new int[] {-1, 7, LEAST, MOST}) {
            Due.be("state(0, " + bad + ")", x.state(0, bad), OUTSIDE);
        }
        for (int bad : new int[] {-1, 4, LEAST, MOST}) {
            Due.be("bound(0, " + bad + ", 0)", x.bound(0, bad, 0), 100002);
            Due.be("bound(0, 0, " + bad + ")", x.bound(0, 0, bad), 100002);
        }
    }
}
