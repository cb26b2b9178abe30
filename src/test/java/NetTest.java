/** Promises 1 to 5, 13, 19, 20: what is told of the net, and what is told back of it. */
public final class NetTest {
    private static final int NONE = ClockZones.NONE;
    private static final int UNKNOWN = ClockZones.UNKNOWN;
    private static final int OUTSIDE = ClockZones.OUTSIDE;
    private static final int STATE = ClockZones.STATE;
    private static final int FULL = ClockZones.FULL;
    private static final int LEAST = Integer.MIN_VALUE;
    private static final int MOST = Integer.MAX_VALUE;

    public static void main(String[] args) {
        newObject();
        edges();
        edgeRefusals();
        guards();
        guardRefusals();
        limits();
        limitRefusals();
        wipes();
        greatest();
        moves();
        whatATellingForgets();
        whatARefusalKeeps();
        Due.done();
    }

    private static void newObject() {
        ClockZones x = new ClockZones();
        int[] due = {0, 0, 0, 0, 0, 1, 0};
        for (int what = 0; what < due.length; what++) {
            Due.be("new: count(" + what + ")", x.count(what), due[what]);
        }
        Due.be("new: about(0, 0)", x.about(0, 0), UNKNOWN);
        Due.be("new: state(0, 0)", x.state(0, 0), STATE);
        Due.be("new: bound(0, 1, 0)", x.bound(0, 1, 0), 100001);
        Due.be("new: reach(-1, -1, -1)", x.reach(-1, -1, -1), STATE);
        Due.be("new: run(0)", x.run(0), STATE);
        Due.be("new: here()", x.here(), STATE);
        Due.be("new: wipe()", x.wipe(), 0);
        for (int clock = 1; clock <= 3; clock++) {
            Due.be("new: greatest(" + clock + ")", x.greatest(clock), 0);
        }
    }

    private static void edges() {
        ClockZones x = new ClockZones();
        int[][] told = {{0, 0, 0, 0, 0}, {2, 5, 5, 4, 14}, {1, 0, 5, -4, 2}, {2, 5, 0, 1, 4},
            {0, 3, 4, -1, 8}};
        for (int e = 0; e < 20; e++) {
            int[] t = told[e % told.length];
            Due.be("edge " + e, x.edge(t[0], t[1], t[2], t[3], t[4]), e);
            Due.be("count(0)", x.count(0), e + 1);
        }
        for (int e = 0; e < 20; e++) {
            for (int what = 0; what < 5; what++) {
                Due.be("about(" + e + ", " + what + ")", x.about(e, what),
                    told[e % told.length][what]);
            }
            Due.be("about(" + e + ", 5)", x.about(e, 5), 0);
        }
        Due.be("a 21st edge", x.edge(0, 0, 0, 0, 0), FULL);
        Due.be("a 21st edge of no machine", x.edge(3, 0, 0, 0, 0), UNKNOWN);
        Due.be("a 21st edge of no channel", x.edge(0, 0, 0, 5, 0), OUTSIDE);
        Due.be("count(0)", x.count(0), 20);
        Due.be("about(20, 0)", x.about(20, 0), UNKNOWN);
        Due.be("about(-1, 0)", x.about(-1, 0), UNKNOWN);
        Due.be("about(20, 9)", x.about(20, 9), UNKNOWN);
        Due.be("about(0, 6)", x.about(0, 6), OUTSIDE);
        Due.be("about(0, -1)", x.about(0, -1), OUTSIDE);
        Due.be("about(least, least)", x.about(LEAST, LEAST), UNKNOWN);
        Due.be("about(most, 0)", x.about(MOST, 0), UNKNOWN);
        Due.be("about(0, most)", x.about(0, MOST), OUTSIDE);
    }

    private static void edgeRefusals() {
        ClockZones x = new ClockZones();
        for (int bad : new int[] {-1, 3, LEAST, MOST}) {
            Due.be("edge of machine " + bad, x.edge(bad, 0, 0, 9, 1), UNKNOWN);
        }
        for (int bad : new int[] {-1, 6, LEAST, MOST}) {
            Due.be("edge from " + bad, x.edge(0, bad, 0, 9, 1), UNKNOWN);
            Due.be("edge to " + bad, x.edge(0, 0, bad, 9, 1), UNKNOWN);
        }
        for (int bad : new int[] {-5, 5, LEAST, MOST}) {
            Due.be("edge of channel " + bad, x.edge(0, 0, 0, bad, 0), OUTSIDE);
        }
        for (int bad : new int[] {1, 3, 15, 16, 18, -1, -2, LEAST, MOST}) {
            Due.be("edge of resets " + bad, x.edge(0, 0, 0, 0, bad), OUTSIDE);
        }
        Due.be("count(0) behind refusals", x.count(0), 0);
        for (int resets = 0; resets <= 14; resets += 2) {
            Due.be("edge of resets " + resets, x.edge(0, 0, 0, 0, resets), resets / 2);
        }
        for (int channel = -4; channel <= 4; channel++) {
            Due.be("edge of channel " + channel, x.edge(0, 0, 0, channel, 0), 12 + channel);
        }
    }

    private static void guards() {
        ClockZones x = new ClockZones();
        x.edge(0, 0, 1, 0, 0);
        x.edge(0, 0, 1, 0, 0);
        Due.be("guard(1, 3, 4, 1000)", x.guard(1, 3, 4, 1000), 1);
        Due.be("guard(1, 1, 0, 0)", x.guard(1, 1, 0, 0), 2);
        Due.be("a third guard", x.guard(1, 1, 0, 0), FULL);
        Due.be("a third guard of no clock", x.guard(1, 4, 0, 0), UNKNOWN);
        Due.be("a third guard of no sort", x.guard(1, 1, 5, 0), OUTSIDE);
        Due.be("about(1, 5)", x.about(1, 5), 2);
        Due.be("about(0, 5)", x.about(0, 5), 0);
        Due.be("count(2)", x.count(2), 2);
        Due.be("guard(0, 2, 2, 7)", x.guard(0, 2, 2, 7), 1);
        Due.be("count(2)", x.count(2), 3);
        Due.be("count(1)", x.count(1), 0);
    }

    private static void guardRefusals() {
        ClockZones x = new ClockZones();
        Due.be("a guard of no edge at all", x.guard(0, 1, 1, 1), UNKNOWN);
        x.edge(0, 0, 1, 0, 0);
        for (int bad : new int[] {-1, 1, 20, LEAST, MOST}) {
            Due.be("guard of edge " + bad, x.guard(bad, 1, 9, 9999), UNKNOWN);
        }
        for (int bad : new int[] {-1, 0, 4, LEAST, MOST}) {
            Due.be("guard of clock " + bad, x.guard(0, bad, 9, 9999), UNKNOWN);
        }
        for (int bad : new int[] {-1, 5, LEAST, MOST}) {
            Due.be("guard of sort " + bad, x.guard(0, 1, bad, 1), OUTSIDE);
        }
        for (int bad : new int[] {-1, 1001, LEAST, MOST}) {
            Due.be("guard of number " + bad, x.guard(0, 1, 1, bad), OUTSIDE);
        }
        Due.be("count(2) behind refusals", x.count(2), 0);
    }

    private static void limits() {
        ClockZones x = new ClockZones();
        for (int m = 0; m < 3; m++) {
            for (int p = 0; p < 6; p++) {
                Due.be("first limit", x.limit(m, p, 1, 0, 1000), 1);
                Due.be("second limit", x.limit(m, p, 3, 1, 0), 2);
                Due.be("third limit", x.limit(m, p, 3, 1, 0), FULL);
                Due.be("count(1)", x.count(1), 2 * (6 * m + p + 1));
            }
        }
        Due.be("a third limit of no place", x.limit(0, 6, 1, 0, 0), UNKNOWN);
        Due.be("a third limit of no sort", x.limit(0, 0, 1, 2, 0), OUTSIDE);
        Due.be("count(1)", x.count(1), 36);
        Due.be("count(2)", x.count(2), 0);
    }

    private static void limitRefusals() {
        ClockZones x = new ClockZones();
        for (int bad : new int[] {-1, 3, LEAST, MOST}) {
            Due.be("limit of machine " + bad, x.limit(bad, 0, 1, 9, 9999), UNKNOWN);
        }
        for (int bad : new int[] {-1, 6, LEAST, MOST}) {
            Due.be("limit of place " + bad, x.limit(0, bad, 1, 9, 9999), UNKNOWN);
        }
        for (int bad : new int[] {-1, 0, 4, LEAST, MOST}) {
            Due.be("limit of clock " + bad, x.limit(0, 0, bad, 9, 9999), UNKNOWN);
        }
        for (int bad : new int[] {-1, 2, 3, 4, 5, LEAST, MOST}) {
            Due.be("limit of sort " + bad, x.limit(0, 0, 1, bad, 1), OUTSIDE);
        }
        for (int bad : new int[] {-1, 1001, LEAST, MOST}) {
            Due.be("limit of number " + bad, x.limit(0, 0, 1, 1, bad), OUTSIDE);
        }
        Due.be("count(1) behind refusals", x.count(1), 0);
    }

    private static void wipes() {
        ClockZones x = new ClockZones();
        x.edge(0, 0, 1, 1, 0);
        x.edge(1, 0, 1, -1, 0);
        x.edge(2, 0, 1, 0, 0);
        x.guard(2, 1, 3, 9);
        x.limit(0, 0, 2, 1, 5);
        x.explore(9);
        Due.be("wipe()", x.wipe(), 3);
        int[] due = {0, 0, 0, 0, 0, 1, 1};
        for (int what = 0; what < due.length; what++) {
            Due.be("wiped: count(" + what + ")", x.count(what), due[what]);
        }
        Due.be("wiped: about(0, 0)", x.about(0, 0), UNKNOWN);
        Due.be("wiped: greatest(1)", x.greatest(1), 0);
        Due.be("wiped: greatest(2)", x.greatest(2), 0);
        Due.be("wiped: the next edge", x.edge(2, 1, 2, 0, 0), 0);
        Due.be("wiped: its guards", x.about(0, 5), 0);
        Due.be("wiped: moves", x.count(4), 1);
        Due.be("wiped: the next limit", x.limit(0, 0, 2, 1, 5), 1);
        Due.be("wipe() again", x.wipe(), 1);
        Due.be("wipe() of nothing", x.wipe(), 0);
    }

    private static void greatest() {
        ClockZones x = new ClockZones();
        x.edge(0, 0, 1, 3, 0);
        x.guard(0, 1, 0, 7);
        x.guard(0, 1, 4, 3);
        Due.be("greatest(1)", x.greatest(1), 7);
        Due.be("greatest(2)", x.greatest(2), 0);
        x.limit(2, 5, 1, 1, 1000);
        x.limit(2, 5, 2, 0, 6);
        x.edge(0, 4, 4, 0, 0);
        x.guard(1, 2, 2, 5);
        x.guard(1, 3, 3, 0);
        Due.be("greatest(1)", x.greatest(1), 1000);
        Due.be("greatest(2)", x.greatest(2), 6);
        Due.be("greatest(3)", x.greatest(3), 0);
        for (int bad : new int[] {-1, 0, 4, LEAST, MOST}) {
            Due.be("greatest(" + bad + ")", x.greatest(bad), UNKNOWN);
        }
    }

    private static void moves() {
        ClockZones x = new ClockZones();
        x.edge(0, 0, 1, 2, 0);
        Due.be("a call alone is no move", x.count(4), 0);
        x.edge(0, 0, 1, -2, 0);
        Due.be("a machine does not answer itself", x.count(4), 0);
        x.edge(1, 0, 1, -3, 0);
        Due.be("another channel does not answer", x.count(4), 0);
        x.edge(1, 0, 1, 2, 0);
        Due.be("a later call is answered by an earlier edge", x.count(4), 1);
        x.edge(2, 0, 1, -2, 0);
        Due.be("one answers both calls", x.count(4), 3);
        x.edge(2, 0, 1, 0, 0);
        Due.be("an edge without a channel", x.count(4), 4);
        for (int bad : new int[] {-1, 7, LEAST, MOST}) {
            Due.be("count(" + bad + ")", x.count(bad), OUTSIDE);
        }
        ClockZones full = new ClockZones();
        for (int e = 0; e < 20; e++) {
            full.edge(e % 2, 0, 0, e % 2 == 0 ? 4 : -4, 0);
        }
        Due.be("ten calls, ten answers", full.count(4), 100);
        Due.be("explore of ten calls, ten answers", full.explore(120), 1);
    }

    /** An explored net with a run, ready to be told more of. */
    private static ClockZones explored() {
        ClockZones x = new ClockZones();
        x.edge(0, 0, 1, 0, 0);
        x.explore(120);
        x.begin();
        return x;
    }

    private static void isForgotten(String what, ClockZones x) {
        Due.be(what + ": explore() is needed", x.count(5), 1);
        Due.be(what + ": no states", x.count(3), 0);
        Due.be(what + ": state(0, 0)", x.state(0, 0), STATE);
        Due.be(what + ": bound(0, 0, 0)", x.bound(0, 0, 0), 100001);
        Due.be(what + ": reach(0, 0, 0)", x.reach(0, 0, 0), STATE);
        Due.be(what + ": has(0, 0, 0, 0)", x.has(0, 0, 0, 0), STATE);
        Due.be(what + ": way(1, 0, 0)", x.way(1, 0, 0), STATE);
        Due.be(what + ": moment(1, 0)", x.moment(1, 0), STATE);
        Due.be(what + ": run(0)", x.run(0), STATE);
        Due.be(what + ": pass(1)", x.pass(1), STATE);
        Due.be(what + ": here()", x.here(), STATE);
        Due.be(what + ": it was done", x.count(6), 1);
    }

    private static void whatATellingForgets() {
        ClockZones x = explored();
        x.edge(0, 5, 5, 0, 0);
        isForgotten("edge()", x);
        x = explored();
        x.guard(0, 1, 3, 0);
        isForgotten("guard()", x);
        x = explored();
        x.limit(2, 5, 1, 1, 9);
        isForgotten("limit()", x);
        x = explored();
        x.wipe();
        isForgotten("wipe()", x);
        x = new ClockZones();
        x.explore(1);
        x.begin();
        x.wipe();
        isForgotten("wipe() of nothing", x);
    }

    private static void whatARefusalKeeps() {
        ClockZones x = explored();
        x.pass(5);
        long before = x.digest();
        x.edge(3, 0, 0, 0, 0);
        x.edge(0, 0, 0, 5, 0);
        x.guard(1, 1, 1, 1);
        x.guard(0, 1, 5, 1);
        x.limit(0, 0, 0, 0, 0);
        x.limit(0, 0, 1, 2, 0);
        x.explore(0);
        x.pass(0);
        x.move(1, NONE);
        x.move(0, 0);
        Due.be("count(5) behind refusals", x.count(5), 0);
        Due.be("count(6) behind refusals", x.count(6), 1);
        Due.be("run(7) behind refusals", x.run(7), 5);
        Due.be("digest() behind refusals", x.digest(), before);
    }
}
