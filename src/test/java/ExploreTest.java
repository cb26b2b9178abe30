/** Promises 6 to 10: that states are met, and what is asked of them. */
public final class ExploreTest {
    private static final int NONE = ClockZones.NONE;
    private static final int UNKNOWN = ClockZones.UNKNOWN;
    private static final int OUTSIDE = ClockZones.OUTSIDE;
    private static final int STATE = ClockZones.STATE;
    private static final int FULL = ClockZones.FULL;
    private static final int OPEN = 100000;
    private static final int LEAST = Integer.MIN_VALUE;
    private static final int MOST = Integer.MAX_VALUE;

    public static void main(String[] args) {
        Said.in("Promise 6: explore");
        howMany();
        metAnew();
        oneMoreThanN();
        answersThatLookLikeRefusals();
        numbersOfN();
        thoseAreKept();
        howOften();
        exploreRefusals();
        Said.in("Promise 7: state");
        facts();
        stateRefusals();
        Said.in("Promise 8: bound");
        bounds();
        boundOfAClockLessItself();
        boundRefusals();
        Said.in("Promise 9: reach");
        reach();
        reachRefusals();
        Said.in("Promise 10: has");
        has();
        hasAtTheMost();
        hasRefusals();
        Said.done();
    }

    /** An explored net of which not even state 0 is met. */
    private static ClockZones stateless() {
        ClockZones x = new ClockZones();
        x.limit(2, 0, 3, 0, 0);
        x.explore(120);
        return x;
    }

    // ---- promise 6

    private static void howMany() {
        Said.that("STATES are met anew, as told: how many;");
        Due.be("an empty net", new ClockZones().explore(120), 1);
        ClockZones none = new ClockZones();
        none.limit(2, 0, 3, 0, 0);
        Due.be("below 0", none.explore(120), 0);
        Due.be("below 0: count(3)", none.count(3), 0);
        Due.be("below 0: count(5)", none.count(5), 0);
        Due.be("walkers", Nets.walkers(3, 3, 3).explore(120), 27);
        Due.be("as many as there may be", Nets.walkers(6, 5, 4).explore(120), 120);
        Due.be("a chain", Nets.chain().explore(120), 41);
        Due.be("20 edges, 100 moves", Nets.full().count(3), 1);
    }

    private static void metAnew() {
        ClockZones x = Nets.walkers(2, 2, 1);
        Due.be("four", x.explore(120), 4);
        Due.be("four again", x.explore(120), 4);
        x.edge(2, 0, 1, 0, 0);
        Due.be("eight", x.explore(120), 8);
        Due.be("state(7, 2)", x.state(7, 2), 1);
        x.wipe();
        Due.be("one", x.explore(120), 1);
        Due.be("state(1, 0)", x.state(1, 0), UNKNOWN);
        Due.be("bound(1, 0, 0)", x.bound(1, 0, 0), 100002);
        x.limit(0, 0, 1, 0, 0);
        Due.be("none", x.explore(120), 0);
        Due.be("state(0, 0)", x.state(0, 0), UNKNOWN);
        Due.be("reach(-1, -1, -1)", x.reach(-1, -1, -1), NONE);
    }

    private static void oneMoreThanN() {
        Said.that("-1 less n, if one more than n would be met");
        Due.be("1 of 1", Nets.walkers(1, 1, 1).explore(1), 1);
        Due.be("1 of 2", Nets.walkers(2, 1, 1).explore(1), -2);
        Due.be("2 of 2", Nets.walkers(2, 1, 1).explore(2), 2);
        Due.be("40 of 41", Nets.chain().explore(40), -41);
        Due.be("41 of 41", Nets.chain().explore(41), 41);
        Due.be("119 of 120", Nets.walkers(6, 5, 4).explore(119), -120);
        Due.be("120 of 120", Nets.walkers(6, 5, 4).explore(120), 120);
        Due.be("120 of 150", Nets.walkers(6, 5, 5).explore(120), -121);
        ClockZones none = new ClockZones();
        none.limit(0, 0, 1, 0, 0);
        Due.be("1 of 0", none.explore(1), 0);
    }

    /** -1 less n may be the same number as a refusal: it is done all the same. */
    private static void answersThatLookLikeRefusals() {
        ClockZones x = Nets.walkers(6, 5, 4);
        for (int n = 99; n <= 104; n++) {
            Due.be("explore(" + n + ")", x.explore(n), -1 - n);
            Due.be("count(3)", x.count(3), n);
            Due.be("count(6)", x.count(6), n - 98);
        }
    }

    private static void numbersOfN() {
        Said.that("(n is 1 to 120;");
        ClockZones x = new ClockZones();
        for (int bad : new int[] {0, -1, 121, LEAST, MOST}) {
            Due.be("explore(" + bad + ")", x.explore(bad), OUTSIDE);
        }
        Due.be("count(6)", x.count(6), 0);
        Due.be("count(5)", x.count(5), 1);
        Due.be("explore(1)", x.explore(1), 1);
        Due.be("explore(120)", x.explore(120), 1);
        Due.be("count(6)", x.count(6), 2);
    }

    private static void thoseAreKept() {
        Said.that("then those n are kept).");
        for (int n : new int[] {1, 2, 7, 119}) {
            ClockZones all = Nets.walkers(6, 5, 4);
            all.explore(120);
            ClockZones x = Nets.walkers(6, 5, 4);
            x.explore(n);
            String name = n + " kept: ";
            Due.be(name + "count(3)", x.count(3), n);
            Due.be(name + "count(5)", x.count(5), 0);
            Due.be(name + "one more", x.state(n, 0), UNKNOWN);
            Due.be(name + "the last of all", x.reach(5, 4, 3), NONE);
            for (int i = Math.max(0, n - 12); i < n; i++) {
                for (int what = 0; what < 7; what++) {
                    Due.be(name + "state(" + i + ", " + what + ")", x.state(i, what), all.state(i, what));
                }
                for (int k = 0; k < 16; k++) {
                    Due.be(name + "bound(" + i + ", " + k / 4 + ", " + k % 4 + ")",
                        x.bound(i, k / 4, k % 4), all.bound(i, k / 4, k % 4));
                }
            }
        }
        ClockZones more = Nets.walkers(6, 5, 5);
        more.explore(120);
        Due.be("120 kept: count(3)", more.count(3), 120);
        Due.be("120 kept: the last of them", more.state(119, 6) > 0 ? 1 : 0, 1);
        Due.be("120 kept: one more", more.state(120, 6), UNKNOWN);
    }

    private static void howOften() {
        Said.that("FULL: it was done 40 times.");
        ClockZones x = Nets.walkers(2, 1, 1);
        for (int i = 0; i < 40; i++) {
            if (i == 20) {
                x.wipe();
                x.edge(0, 0, 1, 0, 0);
            }
            Due.be("refused ones do not count", x.explore(0), OUTSIDE);
            Due.be("one that stops counts", x.explore(1 + i % 2), i % 2 == 0 ? -2 : 2);
            Due.be("count(6)", x.count(6), i + 1);
        }
        Due.be("the 41st", x.explore(1), FULL);
        Due.be("the states stay", x.count(3), 2);
        Due.be("count(5)", x.count(5), 0);
        Due.be("count(6)", x.count(6), 40);
        x.wipe();
        Due.be("behind wipe()", x.explore(3), FULL);
        Due.be("behind wipe(): count(5)", x.count(5), 1);
        Due.be("behind wipe(): state(0, 0)", x.state(0, 0), STATE);
        Due.be("another object", new ClockZones().explore(3), 1);
    }

    private static void exploreRefusals() {
        Said.that("OUTSIDE;");
        Refusals.Call explore = (x, a) -> x.explore(a[0]);
        Refusals.Rule outside = a -> Refusals.in(a[0], 1, 120) ? Refusals.ALLOWED : OUTSIDE;
        int[] n = {1, 120, 0, -1, 121, LEAST, MOST};
        Nets.each((name, maker) -> Refusals.all(name + "explore", maker, explore,
            name.startsWith("full") ? a -> Refusals.in(a[0], 1, 120) ? FULL : OUTSIDE : outside, n));
    }

    // ---- promise 7

    private static void facts(String name, ClockZones x, int i, int... due) {
        for (int what = 0; what < 7; what++) {
            Due.be(name + ": state(" + i + ", " + what + ")", x.state(i, what), due[what]);
        }
    }

    private static void facts() {
        Said.that("Of a STATE: what = 0 to 2 the PLACE of that MACHINE, 3 the STATE from which it was met"
            + " (NONE), 4, 5 the MOVE (NONE), 6 how many MOVES its WAY has.");
        ClockZones x = new ClockZones();
        x.explore(1);
        facts("empty net", x, 0, 0, 0, 0, NONE, NONE, NONE, 0);
        x.edge(2, 0, 5, -4, 0);
        x.edge(0, 5, 4, 0, 0);
        x.edge(0, 0, 5, 0, 0);
        x.edge(1, 0, 3, 4, 0);
        Due.be("explore(120)", x.explore(120), 6);
        facts("first", x, 0, 0, 0, 0, NONE, NONE, NONE, 0);
        facts("alone", x, 1, 5, 0, 0, 0, 2, NONE, 1);
        facts("two at once", x, 2, 0, 3, 5, 0, 3, 0, 1);
        facts("a way of two", x, 3, 4, 0, 0, 1, 1, NONE, 2);
        facts("both ways", x, 4, 5, 3, 5, 1, 3, 0, 2);
        facts("the last", x, 5, 4, 3, 5, 3, 3, 0, 3);
        ClockZones chain = Nets.chain();
        chain.explore(120);
        facts("the longest way", chain, 40, 0, 0, 0, 39, 0, NONE, 40);
    }

    private static int stateDue(int[] a, int states) {
        if (!Refusals.in(a[0], 0, states - 1)) {
            return UNKNOWN;
        }
        return Refusals.in(a[1], 0, 6) ? Refusals.ALLOWED : OUTSIDE;
    }

    private static void stateRefusals() {
        Refusals.Call state = (x, a) -> x.state(a[0], a[1]);
        int[] whats = Refusals.around(0, 6);
        Said.that("STATE;");
        Refusals.all("new: state", ClockZones::new, state, a -> STATE, Refusals.around(0, 119), whats);
        Refusals.all("walked: state", Nets::walked, state, a -> STATE, Refusals.around(0, 119), whats);
        Said.that("UNKNOWN;");
        Refusals.all("none: state", ExploreTest::stateless, state, a -> UNKNOWN,
            Refusals.around(0, 119), whats);
        Said.that("OUTSIDE.");
        Refusals.all("full: state", Nets::full, state, a -> stateDue(a, 1), Refusals.around(0, 0), whats);
        Refusals.all("chain: state", ExploreTest::explored120, state, a -> stateDue(a, 120),
            Refusals.around(0, 119), whats);
    }

    private static ClockZones explored120() {
        ClockZones x = Nets.walkers(6, 5, 4);
        x.explore(120);
        return x;
    }

    // ---- promise 8

    private static void bounds(String name, ClockZones x, int i, int... due) {
        for (int k = 0; k < 16; k++) {
            Due.be(name + ": bound(" + i + ", " + k / 4 + ", " + k % 4 + ")",
                x.bound(i, k / 4, k % 4), due[k]);
        }
    }

    private static void bounds() {
        Said.that("The BOUND of CLOCK x less CLOCK y (0 to 3) in the ZONE of a STATE: twice the number,"
            + " and 1, if it may be just that; 100000: none.");
        ClockZones x = new ClockZones();
        x.explore(1);
        bounds("empty net", x, 0, 1, 1, 1, 1, OPEN, 1, 1, 1, OPEN, 1, 1, 1, OPEN, 1, 1, 1);
        int[] most = {2000, 2001, 2001, OPEN, OPEN};
        int[] least = {1, 1, -1999, -1999, -2000};
        for (int sort = 0; sort <= 4; sort++) {
            x = new ClockZones();
            x.edge(0, 0, 1, 0, 8);
            x.guard(0, 2, sort, 1000);
            Due.be("sort " + sort + ": explore(9)", x.explore(9), 2);
            Due.be("sort " + sort + ": bound(1, 2, 3)", x.bound(1, 2, 3), most[sort]);
            Due.be("sort " + sort + ": bound(1, 0, 2)", x.bound(1, 0, 2), least[sort]);
            Due.be("sort " + sort + ": bound(1, 3, 2)", x.bound(1, 3, 2), least[sort]);
            Due.be("sort " + sort + ": bound(1, 2, 0)", x.bound(1, 2, 0), OPEN);
        }
        for (int sort = 0; sort <= 1; sort++) {
            x = new ClockZones();
            x.limit(0, 0, 3, sort, 1000);
            x.explore(1);
            Due.be("limit of sort " + sort + ": bound(0, 3, 0)", x.bound(0, 3, 0), 2000 + sort);
            Due.be("limit of sort " + sort + ": bound(0, 1, 0)", x.bound(0, 1, 0), 2000 + sort);
        }
    }

    private static void boundOfAClockLessItself() {
        Said.that("(x is y: 1.)");
        ClockZones x = Nets.explored();
        for (int i = 0; i < x.count(3); i++) {
            for (int clock = 0; clock <= 3; clock++) {
                Due.be("bound(" + i + ", " + clock + ", " + clock + ")", x.bound(i, clock, clock), 1);
            }
        }
    }

    private static void boundRefusals() {
        Refusals.Call bound = (x, a) -> x.bound(a[0], a[1], a[2]);
        int[] clocks = Refusals.around(0, 3), states = Refusals.around(0, 119);
        Said.that("STATE (100001),");
        Refusals.all("new: bound", ClockZones::new, bound, a -> 100001, states, clocks, clocks);
        Refusals.all("walked: bound", Nets::walked, bound, a -> 100001, states, clocks, clocks);
        Said.that("UNKNOWN (100002).");
        Refusals.all("none: bound", ExploreTest::stateless, bound, a -> 100002, states, clocks, clocks);
        Refusals.all("bound", Nets::exploredAndWalked, bound, a ->
            Refusals.in(a[0], 0, 15) && Refusals.in(a[1], 0, 3) && Refusals.in(a[2], 0, 3)
                ? Refusals.ALLOWED : 100002, Refusals.around(0, 15), clocks, clocks);
        Refusals.all("120 states: bound", ExploreTest::explored120, bound, a ->
            Refusals.in(a[0], 0, 119) && Refusals.in(a[1], 0, 3) && Refusals.in(a[2], 0, 3)
                ? Refusals.ALLOWED : 100002, states, clocks, clocks);
    }

    // ---- promise 9

    private static void reach() {
        Said.that("The least STATE with these PLACES (-1: any): its number; NONE.");
        ClockZones x = new ClockZones();
        x.edge(0, 0, 5, 0, 0);
        x.edge(1, 0, 5, 0, 0);
        x.edge(2, 0, 5, 0, 0);
        Due.be("explore(120)", x.explore(120), 8);
        int[][] due = {{-1, -1, -1, 0}, {0, 0, 0, 0}, {5, -1, -1, 1}, {-1, 5, -1, 2}, {-1, -1, 5, 3},
            {5, 5, -1, 4}, {5, 0, 5, 5}, {0, 5, 5, 6}, {5, 5, 5, 7}, {1, -1, -1, NONE},
            {5, 4, 5, NONE}, {-1, -1, 4, NONE}, {0, 0, 0, 0}};
        for (int[] a : due) {
            Due.be("reach(" + a[0] + ", " + a[1] + ", " + a[2] + ")", x.reach(a[0], a[1], a[2]), a[3]);
        }
        x.explore(7);
        Due.be("seven kept: reach(5, 5, 5)", x.reach(5, 5, 5), NONE);
        Due.be("seven kept: reach(0, 5, 5)", x.reach(0, 5, 5), 6);
        Due.be("none at all", stateless().reach(-1, -1, -1), NONE);
        Due.be("the last of 120", explored120().reach(5, 4, 3), 119);
        ClockZones two = new ClockZones();
        two.edge(0, 0, 1, 0, 0);
        two.guard(0, 1, 3, 2);
        two.edge(0, 0, 1, 0, 0);
        Due.be("two of the same places", two.explore(120), 3);
        Due.be("the least of two", two.reach(1, 0, 0), 1);
    }

    private static void reachRefusals() {
        Refusals.Call reach = (x, a) -> x.reach(a[0], a[1], a[2]);
        int[] places = {-1, 0, 5, -2, 6, LEAST, MOST};
        Said.that("STATE;");
        Refusals.all("new: reach", ClockZones::new, reach, a -> STATE, places, places, places);
        Refusals.all("walked: reach", Nets::walked, reach, a -> STATE, places, places, places);
        Said.that("OUTSIDE: one is not -1 to 5.");
        Refusals.Rule inside = a -> Refusals.in(a[0], -1, 5) && Refusals.in(a[1], -1, 5)
            && Refusals.in(a[2], -1, 5) ? Refusals.ALLOWED : OUTSIDE;
        Refusals.all("reach", Nets::exploredAndWalked, reach, inside, places, places, places);
        Refusals.all("none: reach", ExploreTest::stateless, reach, inside, places, places, places);
    }

    // ---- promise 10

    private static void has() {
        Said.that("Whether amounts of CLOCKS 1, 2, 3, in 64ths, are in the ZONE of a STATE: 1, 0.");
        ClockZones x = new ClockZones();
        x.edge(0, 0, 1, 0, 4);
        x.guard(0, 1, 0, 2);
        x.guard(0, 1, 4, 1);
        x.limit(0, 1, 2, 1, 3);
        x.limit(1, 5, 3, 1, 1000);
        Due.be("explore(9)", x.explore(9), 2);
        int[][] in = {{65, 0, 65}, {127, 0, 127}, {65 + 192, 192, 65 + 192}, {319, 192, 319}};
        int[][] out = {{64, 0, 64}, {128, 0, 128}, {65, 0, 66}, {66, 0, 65}, {320, 193, 320},
            {320, 192, 320}, {256, 192, 256}, {0, 0, 0}, {1000000, 1000000, 1000000}};
        for (int[] a : in) {
            Due.be("has(1, " + a[0] + ", " + a[1] + ", " + a[2] + ")",
                x.has(1, a[0], a[1], a[2]), 1);
        }
        for (int[] a : out) {
            Due.be("has(1, " + a[0] + ", " + a[1] + ", " + a[2] + ")",
                x.has(1, a[0], a[1], a[2]), 0);
        }
        x = new ClockZones();
        x.limit(0, 0, 2, 1, 0);
        x.explore(1);
        Due.be("at most 0: has(0, 0, 0, 0)", x.has(0, 0, 0, 0), 1);
        Due.be("at most 0: has(0, 1, 1, 1)", x.has(0, 1, 1, 1), 0);
    }

    private static void hasAtTheMost() {
        ClockZones x = new ClockZones();
        x.edge(0, 0, 1, 0, 2);
        x.edge(0, 1, 2, 0, 4);
        Due.be("explore(9)", x.explore(9), 3);
        int most = 1000000;
        Due.be("has(0, most)", x.has(0, most, most, most), 1);
        Due.be("has(0, one less)", x.has(0, most - 1, most, most), 0);
        Due.be("has(0, 0, 0, 0)", x.has(0, 0, 0, 0), 1);
        Due.be("has(1, 0, most, most)", x.has(1, 0, most, most), 1);
        Due.be("has(1, most, 0, 0)", x.has(1, most, 0, 0), 0);
        Due.be("has(2, 0, 0, most)", x.has(2, 0, 0, most), 1);
        Due.be("has(2, most, 0, most)", x.has(2, most, 0, most), 1);
        Due.be("has(2, 0, most, most)", x.has(2, 0, most, most), 0);
        Due.be("has(2, 0, 0, 0)", x.has(2, 0, 0, 0), 1);
    }

    private static int hasDue(int[] a, int states) {
        if (!Refusals.in(a[0], 0, states - 1)) {
            return UNKNOWN;
        }
        boolean inside = Refusals.in(a[1], 0, 1000000) && Refusals.in(a[2], 0, 1000000)
            && Refusals.in(a[3], 0, 1000000);
        return inside ? Refusals.ALLOWED : OUTSIDE;
    }

    private static void hasRefusals() {
        Refusals.Call has = (x, a) -> x.has(a[0], a[1], a[2], a[3]);
        int[] amounts = Refusals.around(0, 1000000), states = Refusals.around(0, 119);
        Said.that("STATE;");
        Refusals.all("new: has", ClockZones::new, has, a -> STATE, states, amounts, amounts, amounts);
        Said.that("UNKNOWN;");
        Refusals.all("none: has", ExploreTest::stateless, has, a -> UNKNOWN,
            states, amounts, amounts, amounts);
        Said.that("OUTSIDE: one is below 0, or above 1000000.");
        Refusals.all("has", Nets::exploredAndWalked, has, a -> hasDue(a, 16),
            Refusals.around(0, 15), amounts, amounts, amounts);
    }
}
