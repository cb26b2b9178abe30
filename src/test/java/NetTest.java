/** Promises 1 to 5, 13, 19, 20: what is told of the net, and what is told back of it. */
public final class NetTest {
    private static final int UNKNOWN = ClockZones.UNKNOWN;
    private static final int OUTSIDE = ClockZones.OUTSIDE;
    private static final int STATE = ClockZones.STATE;
    private static final int FULL = ClockZones.FULL;
    private static final int LEAST = Integer.MIN_VALUE;
    private static final int MOST = Integer.MAX_VALUE;

    public static void main(String[] args) {
        Said.in("Promise 1: A new object");
        newObject();
        Said.in("Promise 2: edge");
        edgeNumbers();
        edgeUnknown();
        edgeChannel();
        edgeResets();
        edgeFull();
        edgeRefusals();
        Said.in("Promise 3: guard");
        guardNumbers();
        guardUnknown();
        guardOutside();
        guardFull();
        guardRefusals();
        Said.in("Promise 4: limit");
        limitNumbers();
        limitUnknown();
        limitOutside();
        limitFull();
        limitRefusals();
        Said.in("Promise 5: wipe");
        wipe();
        wipeOfAllThatThereMayBe();
        wipeOfNothing();
        Said.in("Promise 13: greatest");
        greatest();
        Said.in("Promise 19: about");
        about();
        aboutRefusals();
        Said.in("Promise 20: count");
        count();
        countOfAllThatThereMayBe();
        countOfStates();
        countOutside();
        Said.done();
    }

    // ---- promise 1

    private static void newObject() {
        Said.that("No EDGES, no LIMITS.");
        ClockZones other = new ClockZones();
        other.edge(0, 0, 1, 0, 0);
        other.guard(0, 1, 1, 9);
        other.limit(0, 0, 1, 1, 9);
        other.explore(120);
        other.begin();
        ClockZones x = new ClockZones();
        int[] due = {0, 0, 0, 0, 0, 1, 0};
        for (int what = 0; what < due.length; what++) {
            Due.be("count(" + what + ")", x.count(what), due[what]);
        }
        Due.be("about(0, 0)", x.about(0, 0), UNKNOWN);
        Due.be("guard(0, 1, 1, 1)", x.guard(0, 1, 1, 1), UNKNOWN);
        Due.be("move(0, NONE)", x.move(0, ClockZones.NONE), UNKNOWN);
        Due.be("state(0, 0)", x.state(0, 0), STATE);
        Due.be("bound(0, 1, 0)", x.bound(0, 1, 0), 100001);
        Due.be("reach(-1, -1, -1)", x.reach(-1, -1, -1), STATE);
        Due.be("run(0)", x.run(0), STATE);
        Due.be("here()", x.here(), STATE);
        for (int clock = 1; clock <= 3; clock++) {
            Due.be("greatest(" + clock + ")", x.greatest(clock), 0);
        }
        Due.be("wipe()", x.wipe(), 0);
        for (int place = 0; place < 18; place++) {
            Due.be("the first limit of a place", x.limit(place / 6, place % 6, 1, 1, 1), 1);
        }
    }

    // ---- promise 2

    private static void edgeNumbers() {
        Said.that("An EDGE of a MACHINE: its number.");
        ClockZones x = new ClockZones();
        int[][] told = {{0, 0, 0, 0, 0}, {2, 5, 5, 4, 14}, {1, 0, 5, -4, 2}, {2, 5, 0, 1, 4},
            {0, 3, 4, -1, 8}};
        for (int e = 0; e < 20; e++) {
            int[] t = told[e % told.length];
            Due.be("edge " + e, x.edge(t[0], t[1], t[2], t[3], t[4]), e);
            Due.be("count(0)", x.count(0), e + 1);
        }
        for (int e = 0; e < 20; e++) {
            for (int what = 0; what < 5; what++) {
                Due.be("about(" + e + ", " + what + ")", x.about(e, what),
                    told[e % told.length][what]);
            }
            Due.be("about(" + e + ", 5)", x.about(e, 5), 0);
        }
    }

    private static void edgeUnknown() {
        Said.that("UNKNOWN: m, from, to;");
        ClockZones x = new ClockZones();
        for (int bad : new int[] {-1, 3, LEAST, MOST}) {
            Due.be("edge of machine " + bad, x.edge(bad, 0, 0, 0, 0), UNKNOWN);
        }
        for (int bad : new int[] {-1, 6, LEAST, MOST}) {
            Due.be("edge from " + bad, x.edge(0, bad, 0, 0, 0), UNKNOWN);
            Due.be("edge to " + bad, x.edge(0, 0, bad, 0, 0), UNKNOWN);
        }
        Due.be("count(0)", x.count(0), 0);
        for (int m = 0; m < 3; m++) {
            Due.be("edge of machine " + m, x.edge(m, 0, 0, 0, 0), m);
        }
        for (int p = 0; p < 6; p++) {
            Due.be("edge from " + p, x.edge(0, p, 0, 0, 0), 3 + 2 * p);
            Due.be("edge to " + p, x.edge(0, 0, p, 0, 0), 4 + 2 * p);
        }
    }

    private static void edgeChannel() {
        Said.that("OUTSIDE: CHANNEL (-4 to 4),");
        ClockZones x = new ClockZones();
        for (int bad : new int[] {-5, 5, LEAST, MOST}) {
            Due.be("edge of channel " + bad, x.edge(0, 0, 0, bad, 0), OUTSIDE);
        }
        Due.be("count(0)", x.count(0), 0);
        for (int channel = -4; channel <= 4; channel++) {
            Due.be("edge of channel " + channel, x.edge(0, 0, 0, channel, 0), 4 + channel);
            Due.be("about it", x.about(4 + channel, 3), channel);
        }
    }

    private static void edgeResets() {
        Said.that("RESETS (bits 1 to 3 alone);");
        ClockZones x = new ClockZones();
        for (int bit = 0; bit < 32; bit++) {
            if (bit < 1 || bit > 3) {
                Due.be("edge of bit " + bit, x.edge(0, 0, 0, 0, 1 << bit), OUTSIDE);
                Due.be("edge of bit " + bit + " and 14", x.edge(0, 0, 0, 0, 1 << bit | 14), OUTSIDE);
            }
        }
        for (int bad : new int[] {3, 15, 18, -1, -2, MOST}) {
            Due.be("edge of resets " + bad, x.edge(0, 0, 0, 0, bad), OUTSIDE);
        }
        Due.be("count(0)", x.count(0), 0);
        for (int resets = 0; resets <= 14; resets += 2) {
            Due.be("edge of resets " + resets, x.edge(0, 0, 0, 0, resets), resets / 2);
            Due.be("about it", x.about(resets / 2, 4), resets);
        }
    }

    private static void edgeFull() {
        Said.that("FULL.");
        ClockZones x = Nets.full();
        Due.be("count(0)", x.count(0), 20);
        Due.be("a 21st edge", x.edge(0, 0, 0, 0, 0), FULL);
        Due.be("about(20, 0)", x.about(20, 0), UNKNOWN);
        Due.be("count(0)", x.count(0), 20);
        Due.be("wipe()", x.wipe(), 20);
        for (int e = 0; e < 20; e++) {
            Due.be("room again: edge " + e, x.edge(0, 0, 0, 0, 0), e);
        }
        Due.be("and full again", x.edge(0, 0, 0, 0, 0), FULL);
    }

    private static int edgeDue(int[] a, int last) {
        if (!Refusals.in(a[0], 0, 2) || !Refusals.in(a[1], 0, 5) || !Refusals.in(a[2], 0, 5)) {
            return UNKNOWN;
        }
        boolean inside = Refusals.in(a[3], -4, 4) && Refusals.in(a[4], 0, 14) && a[4] % 2 == 0;
        return inside ? last : OUTSIDE;
    }

    private static void edgeRefusals() {
        int[] machines = Refusals.near(0, 2), places = Refusals.near(0, 5);
        int[] channels = Refusals.near(-4, 4), resets = {0, 14, 1, 16};
        Refusals.Call edge = (x, a) -> x.edge(a[0], a[1], a[2], a[3], a[4]);
        Refusals.all("edge", Nets::exploredAndWalked, edge, a -> edgeDue(a, Refusals.ALLOWED),
            machines, places, places, channels, resets);
        Refusals.all("full: edge", Nets::full, edge, a -> edgeDue(a, FULL),
            machines, places, places, channels, resets);
    }

    // ---- promise 3

    private static void guardNumbers() {
        Said.that("An EDGE gets a GUARD: how many it has.");
        ClockZones x = new ClockZones();
        x.edge(0, 0, 1, 0, 0);
        x.edge(0, 0, 1, 0, 0);
        Due.be("guard(1, 3, 4, 1000)", x.guard(1, 3, 4, 1000), 1);
        Due.be("guard(1, 1, 0, 0)", x.guard(1, 1, 0, 0), 2);
        Due.be("about(1, 5)", x.about(1, 5), 2);
        Due.be("about(0, 5)", x.about(0, 5), 0);
        Due.be("count(2)", x.count(2), 2);
        Due.be("guard(0, 2, 2, 7)", x.guard(0, 2, 2, 7), 1);
        Due.be("the same guard again", x.guard(0, 2, 2, 7), 2);
        Due.be("count(2)", x.count(2), 4);
        Due.be("count(1)", x.count(1), 0);
    }

    private static void guardUnknown() {
        Said.that("UNKNOWN: e, x;");
        ClockZones x = new ClockZones();
        for (int bad : new int[] {-1, 0, 1, 19, 20, LEAST, MOST}) {
            Due.be("no edges: guard of edge " + bad, x.guard(bad, 1, 1, 1), UNKNOWN);
        }
        x.edge(0, 0, 1, 0, 0);
        for (int bad : new int[] {-1, 1, 19, 20, LEAST, MOST}) {
            Due.be("guard of edge " + bad, x.guard(bad, 1, 1, 1), UNKNOWN);
        }
        for (int bad : new int[] {-1, 0, 4, LEAST, MOST}) {
            Due.be("guard of clock " + bad, x.guard(0, bad, 1, 1), UNKNOWN);
        }
        Due.be("count(2)", x.count(2), 0);
        Due.be("guard of clock 1", x.guard(0, 1, 1, 1), 1);
        Due.be("guard of clock 3", x.guard(0, 3, 1, 1), 2);
        x.wipe();
        Due.be("wiped: guard of edge 0", x.guard(0, 1, 1, 1), UNKNOWN);
    }

    private static void guardOutside() {
        Said.that("OUTSIDE: sort, c;");
        ClockZones x = new ClockZones();
        x.edge(0, 0, 1, 0, 0);
        for (int bad : new int[] {-1, 5, LEAST, MOST}) {
            Due.be("guard of sort " + bad, x.guard(0, 1, bad, 1), OUTSIDE);
        }
        for (int sort = 0; sort <= 4; sort++) {
            for (int bad : new int[] {-1, 1001, LEAST, MOST}) {
                Due.be("guard of number " + bad, x.guard(0, 1, sort, bad), OUTSIDE);
            }
        }
        Due.be("count(2)", x.count(2), 0);
        for (int sort = 0; sort <= 4; sort++) {
            x.edge(0, 0, 1, 0, 0);
            Due.be("guard of sort " + sort + ", number 0", x.guard(sort, 1, sort, 0), 1);
            Due.be("guard of sort " + sort + ", number 1000", x.guard(sort, 1, sort, 1000), 2);
        }
    }

    private static void guardFull() {
        Said.that("FULL.");
        ClockZones x = Nets.full();
        for (int e = 0; e < 20; e++) {
            Due.be("a third guard of edge " + e, x.guard(e, 1, 0, 0), FULL);
            Due.be("about(" + e + ", 5)", x.about(e, 5), 2);
        }
        Due.be("count(2)", x.count(2), 40);
        Due.be("greatest(1)", x.greatest(1), 0);
        x.wipe();
        x.edge(0, 0, 0, 0, 0);
        Due.be("room again: the first", x.guard(0, 1, 0, 0), 1);
        Due.be("room again: the second", x.guard(0, 1, 0, 0), 2);
        Due.be("and full again", x.guard(0, 1, 0, 0), FULL);
    }

    private static int guardDue(int[] a, int edges, int last) {
        if (!Refusals.in(a[0], 0, edges - 1) || !Refusals.in(a[1], 1, 3)) {
            return UNKNOWN;
        }
        return Refusals.in(a[2], 0, 4) && Refusals.in(a[3], 0, 1000) ? last : OUTSIDE;
    }

    private static void guardRefusals() {
        Refusals.Call guard = (x, a) -> x.guard(a[0], a[1], a[2], a[3]);
        int[] clocks = Refusals.around(1, 3), sorts = Refusals.around(0, 4);
        int[] numbers = Refusals.around(0, 1000);
        Refusals.all("guard", Nets::exploredAndWalked, guard,
            a -> guardDue(a, 4, Refusals.ALLOWED), Refusals.around(0, 3), clocks, sorts, numbers);
        Refusals.all("full: guard", Nets::full, guard, a -> guardDue(a, 20, FULL),
            Refusals.around(0, 19), clocks, sorts, numbers);
    }

    // ---- promise 4

    private static void limitNumbers() {
        Said.that("A PLACE gets a LIMIT: how many it has.");
        ClockZones x = new ClockZones();
        for (int place = 0; place < 18; place++) {
            Due.be("first limit", x.limit(place / 6, place % 6, 1, 0, 1000), 1);
            Due.be("second limit", x.limit(place / 6, place % 6, 3, 1, 0), 2);
            Due.be("count(1)", x.count(1), 2 * (place + 1));
        }
        Due.be("count(2)", x.count(2), 0);
    }

    private static void limitUnknown() {
        Said.that("UNKNOWN: m, p, x;");
        ClockZones x = new ClockZones();
        for (int bad : new int[] {-1, 3, LEAST, MOST}) {
            Due.be("limit of machine " + bad, x.limit(bad, 0, 1, 1, 1), UNKNOWN);
        }
        for (int bad : new int[] {-1, 6, LEAST, MOST}) {
            Due.be("limit of place " + bad, x.limit(0, bad, 1, 1, 1), UNKNOWN);
            Due.be("limit of machine 1, place " + bad, x.limit(1, bad, 1, 1, 1), UNKNOWN);
        }
        for (int bad : new int[] {-1, 0, 4, LEAST, MOST}) {
            Due.be("limit of clock " + bad, x.limit(0, 0, bad, 1, 1), UNKNOWN);
        }
        Due.be("count(1)", x.count(1), 0);
        Due.be("limit of machine 2, place 5, clock 3", x.limit(2, 5, 3, 1, 1), 1);
        Due.be("limit of machine 0, place 0, clock 1", x.limit(0, 0, 1, 1, 1), 1);
    }

    private static void limitOutside() {
        Said.that("OUTSIDE: sort, c;");
        ClockZones x = new ClockZones();
        for (int bad : new int[] {-1, 2, 3, 4, 5, LEAST, MOST}) {
            Due.be("limit of sort " + bad, x.limit(0, 0, 1, bad, 1), OUTSIDE);
        }
        for (int bad : new int[] {-1, 1001, LEAST, MOST}) {
            Due.be("limit of sort 0, number " + bad, x.limit(0, 0, 1, 0, bad), OUTSIDE);
            Due.be("limit of sort 1, number " + bad, x.limit(0, 0, 1, 1, bad), OUTSIDE);
        }
        Due.be("count(1)", x.count(1), 0);
        for (int sort = 0; sort <= 1; sort++) {
            Due.be("limit of sort " + sort + ", number 0", x.limit(0, sort, 1, sort, 0), 1);
            Due.be("limit of sort " + sort + ", number 1000", x.limit(0, sort, 1, sort, 1000), 2);
        }
    }

    private static void limitFull() {
        Said.that("FULL.");
        ClockZones x = Nets.full();
        for (int place = 0; place < 18; place++) {
            Due.be("a third limit", x.limit(place / 6, place % 6, 1, 1, 7), FULL);
        }
        Due.be("count(1)", x.count(1), 36);
        Due.be("greatest(1)", x.greatest(1), 0);
        x.wipe();
        Due.be("room again: the first", x.limit(2, 5, 1, 1, 7), 1);
        Due.be("room again: the second", x.limit(2, 5, 1, 1, 7), 2);
        Due.be("and full again", x.limit(2, 5, 1, 1, 7), FULL);
        Due.be("another place is not", x.limit(2, 4, 1, 1, 7), 1);
    }

    private static int limitDue(int[] a, int last) {
        if (!Refusals.in(a[0], 0, 2) || !Refusals.in(a[1], 0, 5) || !Refusals.in(a[2], 1, 3)) {
            return UNKNOWN;
        }
        return Refusals.in(a[3], 0, 1) && Refusals.in(a[4], 0, 1000) ? last : OUTSIDE;
    }

    private static void limitRefusals() {
        Refusals.Call limit = (x, a) -> x.limit(a[0], a[1], a[2], a[3], a[4]);
        int[] machines = Refusals.near(0, 2), places = Refusals.near(0, 5);
        int[] clocks = Refusals.near(1, 3), sorts = Refusals.near(0, 1), numbers = Refusals.near(0, 1000);
        Refusals.all("limit", Nets::exploredAndWalked, limit, a -> limitDue(a, Refusals.ALLOWED),
            machines, places, clocks, sorts, numbers);
        Refusals.all("full: limit", Nets::full, limit, a -> limitDue(a, FULL),
            machines, places, clocks, sorts, numbers);
    }

    // ---- promise 5

    private static void wipe() {
        Said.that("All EDGES and LIMITS go: how many EDGES there were.");
        ClockZones x = Nets.explored();
        Due.be("wipe()", x.wipe(), 4);
        int[] due = {0, 0, 0, 0, 0, 1, 1};
        for (int what = 0; what < due.length; what++) {
            Due.be("wiped: count(" + what + ")", x.count(what), due[what]);
        }
        Due.be("wiped: about(0, 0)", x.about(0, 0), UNKNOWN);
        Due.be("wiped: greatest(1)", x.greatest(1), 0);
        Due.be("wiped: greatest(2)", x.greatest(2), 0);
        Due.be("wiped: greatest(3)", x.greatest(3), 0);
        Due.be("wiped: the next edge", x.edge(2, 1, 2, 0, 0), 0);
        Due.be("wiped: its guards", x.about(0, 5), 0);
        Due.be("wiped: moves", x.count(4), 1);
        Due.be("wiped: the next limit", x.limit(0, 0, 2, 1, 5), 1);
        Due.be("wipe() again", x.wipe(), 1);
        Due.be("wipe() of nothing", x.wipe(), 0);
    }

    private static void wipeOfAllThatThereMayBe() {
        ClockZones x = Nets.full();
        Due.be("full: wipe()", x.wipe(), 20);
        Due.be("full: wiped edges", x.count(0), 0);
        Due.be("full: wiped limits", x.count(1), 0);
        Due.be("full: wiped guards", x.count(2), 0);
        Due.be("full: wiped moves", x.count(4), 0);
        Due.be("full: a run goes where limits were", x.begin(), 1);
        for (int i = 0; i < 15; i++) {
            Due.be("full: pass(64000)", x.pass(64000), 1);
        }
    }

    private static void wipeOfNothing() {
        ClockZones x = new ClockZones();
        Due.be("new: wipe()", x.wipe(), 0);
        x.limit(0, 0, 1, 0, 0);
        Due.be("limits alone: wipe()", x.wipe(), 0);
        Due.be("limits alone: count(1)", x.count(1), 0);
        Due.be("limits alone: begin()", x.begin(), 1);
    }

    // ---- promise 13

    private static void greatest() {
        Said.that("GREATEST of a CLOCK.");
        ClockZones x = new ClockZones();
        x.edge(0, 0, 1, 3, 0);
        x.guard(0, 1, 0, 7);
        x.guard(0, 1, 4, 3);
        Due.be("greatest(1) of two guards", x.greatest(1), 7);
        Due.be("greatest(2) without any", x.greatest(2), 0);
        x.limit(2, 5, 1, 1, 1000);
        x.limit(2, 5, 2, 0, 6);
        x.edge(0, 4, 4, 0, 0);
        x.guard(1, 2, 2, 5);
        x.guard(1, 3, 3, 0);
        Due.be("greatest(1) of a limit", x.greatest(1), 1000);
        Due.be("greatest(2) of a limit", x.greatest(2), 6);
        Due.be("greatest(3) of a guard of 0", x.greatest(3), 0);
        x.edge(0, 0, 0, 0, 0);
        x.guard(2, 3, 0, 1000);
        Due.be("greatest(3) of the last guard", x.greatest(3), 1000);
        Said.that("UNKNOWN.");
        Nets.each((name, maker) -> Refusals.all(name + "greatest", maker,
            (y, a) -> y.greatest(a[0]), a -> Refusals.in(a[0], 1, 3) ? Refusals.ALLOWED : UNKNOWN,
            new int[] {-1, 0, 1, 2, 3, 4, LEAST, MOST}));
    }

    // ---- promise 19

    private static void about() {
        Said.that("Of an EDGE: what = 0 MACHINE, 1 from, 2 to, 3 CHANNEL, 4 RESETS, 5 how many GUARDS.");
        ClockZones x = new ClockZones();
        x.edge(2, 5, 4, -3, 14);
        x.edge(1, 0, 3, 4, 6);
        int[][] due = {{2, 5, 4, -3, 14}, {1, 0, 3, 4, 6}};
        for (int e = 0; e < 2; e++) {
            for (int what = 0; what < 5; what++) {
                Due.be("about(" + e + ", " + what + ")", x.about(e, what), due[e][what]);
            }
        }
        for (int guards = 0; guards < 2; guards++) {
            Due.be("about(1, 5)", x.about(1, 5), guards);
            x.guard(1, 1, 1, 1);
        }
        Due.be("about(1, 5)", x.about(1, 5), 2);
        Due.be("about(0, 5)", x.about(0, 5), 0);
    }

    private static int aboutDue(int[] a, int edges) {
        if (!Refusals.in(a[0], 0, edges - 1)) {
            return UNKNOWN;
        }
        return Refusals.in(a[1], 0, 5) ? Refusals.ALLOWED : OUTSIDE;
    }

    private static void aboutRefusals() {
        Refusals.Call about = (x, a) -> x.about(a[0], a[1]);
        int[] whats = Refusals.around(0, 5);
        Said.that("UNKNOWN;");
        Refusals.all("new: about", ClockZones::new, about, a -> aboutDue(a, 0),
            Refusals.around(0, 20), whats);
        Said.that("OUTSIDE.");
        Refusals.all("about", Nets::exploredAndWalked, about, a -> aboutDue(a, 4),
            Refusals.around(0, 3), whats);
        Refusals.all("full: about", Nets::full, about, a -> aboutDue(a, 20),
            Refusals.around(0, 19), whats);
    }

    // ---- promise 20

    private static void counts(String name, ClockZones x, int... due) {
        for (int what = 0; what < due.length; what++) {
            Due.be(name + ": count(" + what + ")", x.count(what), due[what]);
        }
    }

    private static void count() {
        Said.that("How many: 0 EDGES, 1 LIMITS, 2 GUARDS,");
        ClockZones x = Nets.told();
        counts("told", x, 4, 2, 2, 0, 3, 1, 0);
        Said.that("5 whether explore() is needed (1, 0), 6 how often it was done.");
        x.explore(2);
        counts("explored", x, 4, 2, 2, 2, 3, 0, 1);
        counts("explored again", x, 4, 2, 2, x.explore(120), 3, 0, 2);
        x.limit(0, 0, 1, 1, 5);
        counts("told more", x, 4, 3, 2, 0, 3, 1, 2);
        x.explore(0);
        counts("refused", x, 4, 3, 2, 0, 3, 1, 2);
        Said.that("4 MOVES there are,");
        moves();
    }

    private static void moves() {
        ClockZones x = new ClockZones();
        Due.be("no edges, no moves", x.count(4), 0);
        x.edge(0, 0, 1, 2, 0);
        Due.be("a call alone is no move", x.count(4), 0);
        x.edge(0, 0, 1, -2, 0);
        Due.be("a machine does not answer itself", x.count(4), 0);
        x.edge(1, 0, 1, -3, 0);
        Due.be("another channel does not answer", x.count(4), 0);
        x.edge(1, 0, 1, 2, 0);
        Due.be("a later call is answered by an earlier edge", x.count(4), 1);
        x.edge(2, 0, 1, -2, 0);
        Due.be("one answers both calls", x.count(4), 3);
        x.edge(2, 0, 1, 0, 0);
        Due.be("an edge without a channel", x.count(4), 4);
        x.edge(2, 5, 5, 0, 0);
        Due.be("one that is never reached", x.count(4), 5);
    }

    private static void countOfAllThatThereMayBe() {
        counts("full", Nets.full(), 20, 36, 40, 1, 100, 0, 40);
        ClockZones alone = new ClockZones();
        for (int e = 0; e < 20; e++) {
            alone.edge(e % 3, e % 6, 0, 0, 0);
        }
        Due.be("20 edges alone: count(4)", alone.count(4), 20);
    }

    private static void countOfStates() {
        Said.that("3 STATES (0 before explore()),");
        ClockZones x = Nets.walkers(6, 5, 5);
        Due.be("before: count(3)", x.count(3), 0);
        x.explore(1);
        Due.be("one kept: count(3)", x.count(3), 1);
        x.explore(120);
        Due.be("all that there may be: count(3)", x.count(3), 120);
        x.explore(0);
        Due.be("refused: count(3)", x.count(3), 120);
        x.edge(0, 0, 0, 0, 0);
        Due.be("needed anew: count(3)", x.count(3), 0);
        x.wipe();
        x.limit(0, 0, 1, 0, 0);
        x.explore(120);
        Due.be("not even state 0: count(3)", x.count(3), 0);
        Due.be("not even state 0: count(5)", x.count(5), 0);
    }

    private static void countOutside() {
        Said.that("OUTSIDE.");
        Nets.each((name, maker) -> Refusals.all(name + "count", maker,
            (y, a) -> y.count(a[0]), a -> Refusals.in(a[0], 0, 6) ? Refusals.ALLOWED : OUTSIDE,
            new int[] {-1, 0, 1, 2, 3, 4, 5, 6, 7, LEAST, MOST}));
    }
}
