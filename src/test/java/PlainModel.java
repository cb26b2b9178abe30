import java.util.ArrayList;
import java.util.Arrays;
import java.util.List;

/**
 * The document once more, in the plainest form and as slow as it likes: closed by going over all
 * clocks until nothing changes, objects for all things, nothing kept that can be found again.
 */
final class PlainModel {
    private static final int NONE = -1, UNKNOWN = -101, OUTSIDE = -102, STATE = -103, FULL = -104;

    record Test(int clock, int sort, int c) {
        boolean holds(long amount) {
            long due = 64L * c;
            return switch (sort) {
                case 0 -> amount < due;
                case 1 -> amount <= due;
                case 2 -> amount == due;
                case 3 -> amount >= due;
                default -> amount > due;
            };
        }
    }

    record Edge(int m, int from, int to, int channel, int resets, List<Test> guards) {
    }

    record Move(int e, int f) {
    }

    /** A number, and whether it has to be below it; null stands for no bound. */
    record Bound(int number, boolean below) {
        static Bound both(Bound a, Bound b) {
            return a == null || b == null ? null
                : new Bound(a.number + b.number, a.below || b.below);
        }

        static boolean narrower(Bound a, Bound b) {
            if (a == null || b == null) {
                return a != null;
            }
            return a.number < b.number || a.number == b.number && a.below && !b.below;
        }
    }

    static final class Zone {
        final Bound[][] of = new Bound[4][4];

        static Zone atZero() {
            Zone zone = new Zone();
            for (Bound[] row : zone.of) {
                Arrays.fill(row, new Bound(0, false));
            }
            return zone;
        }

        Zone copy() {
            Zone zone = new Zone();
            for (int x = 0; x < 4; x++) {
                zone.of[x] = of[x].clone();
            }
            return zone;
        }

        void keep(int x, int y, Bound bound) {
            if (Bound.narrower(bound, of[x][y])) {
                of[x][y] = bound;
            }
        }

        void keep(Test test) {
            if (test.sort <= 2) {
                keep(test.clock, 0, new Bound(test.c, test.sort == 0));
            }
            if (test.sort >= 2) {
                keep(0, test.clock, new Bound(-test.c, test.sort == 4));
            }
        }

        /** False if it is empty: then a clock less itself would have to be below 0. */
        boolean close() {
            for (int round = 0; round < 4; round++) {
                for (int x = 0; x < 4; x++) {
                    for (int y = 0; y < 4; y++) {
                        for (int z = 0; z < 4; z++) {
                            keep(x, z, Bound.both(of[x][y], of[y][z]));
                        }
                    }
                }
            }
            for (int x = 0; x < 4; x++) {
                if (Bound.narrower(of[x][x], new Bound(0, false))) {
                    return false;
                }
            }
            return true;
        }

        void setBack(int x) {
            for (int y = 0; y < 4; y++) {
                if (y != x) {
                    of[x][y] = of[0][y];
                    of[y][x] = of[y][0];
                }
            }
        }

        Zone widened(int[] greatest) {
            Zone wide = copy();
            for (int x = 1; x < 4; x++) {
                for (int y = 0; y < 4; y++) {
                    if (y == x) {
                        continue;
                    }
                    if (of[x][y] != null && of[x][y].number > greatest[x]) {
                        wide.of[x][y] = null;
                    }
                    if (of[y][x] != null && of[y][x].number < -greatest[x]) {
                        wide.of[y][x] = new Bound(-greatest[x], true);
                    }
                }
            }
            wide.close();
            return wide;
        }

        boolean takesIn(Zone other) {
            for (int x = 0; x < 4; x++) {
                for (int y = 0; y < 4; y++) {
                    if (Bound.narrower(of[x][y], other.of[x][y])) {
                        return false;
                    }
                }
            }
            return true;
        }

        boolean has(long[] amounts) {
            for (int x = 0; x < 4; x++) {
                for (int y = 0; y < 4; y++) {
                    Bound b = of[x][y];
                    long less = amounts[x] - amounts[y];
                    if (b != null && (b.below ? less >= 64L * b.number : less > 64L * b.number)) {
                        return false;
                    }
                }
            }
            return true;
        }
    }

    record Met(int[] places, Zone zone, int from, Move by, List<Move> way) {
    }

    private final List<Edge> edges = new ArrayList<>();
    private final List<List<Test>> limits = new ArrayList<>();
    private List<Met> states = null;
    private int explored = 0;
    private int[] places = null;
    private long[] amounts = null;
    private long time = 0;
    private int moved = 0;

    PlainModel() {
        for (int i = 0; i < 18; i++) {
            limits.add(new ArrayList<>());
        }
    }

    private void told() {
        states = null;
        places = null;
    }

    private static boolean in(int n, int least, int most) {
        return n >= least && n <= most;
    }

    int edge(int m, int from, int to, int channel, int resets) {
        if (!in(m, 0, 2) || !in(from, 0, 5) || !in(to, 0, 5)) return UNKNOWN;
        if (!in(channel, -4, 4) || !in(resets, 0, 14) || resets % 2 != 0) return OUTSIDE;
        if (edges.size() == 20) return FULL;
        told();
        edges.add(new Edge(m, from, to, channel, resets, new ArrayList<>()));
        return edges.size() - 1;
    }

    int guard(int e, int x, int sort, int c) {
        if (!in(e, 0, edges.size() - 1) || !in(x, 1, 3)) return UNKNOWN;
        if (!in(sort, 0, 4) || !in(c, 0, 1000)) return OUTSIDE;
        return put(edges.get(e).guards, new Test(x, sort, c));
    }

    int limit(int m, int p, int x, int sort, int c) {
        if (!in(m, 0, 2) || !in(p, 0, 5) || !in(x, 1, 3)) return UNKNOWN;
        if (!in(sort, 0, 1) || !in(c, 0, 1000)) return OUTSIDE;
        return put(limits.get(6 * m + p), new Test(x, sort, c));
    }

    private int put(List<Test> tests, Test test) {
        if (tests.size() == 2) return FULL;
        told();
        tests.add(test);
        return tests.size();
    }

    int wipe() {
        int gone = edges.size();
        edges.clear();
        for (List<Test> tests : limits) {
            tests.clear();
        }
        told();
        return gone;
    }

    boolean isMove(int e, int f) {
        Edge call = edges.get(e);
        if (f == NONE) return call.channel == 0;
        Edge answer = edges.get(f);
        return call.channel > 0 && call.channel + answer.channel == 0 && call.m != answer.m;
    }

    private List<Move> moves() {
        List<Move> all = new ArrayList<>();
        for (int e = 0; e < edges.size(); e++) {
            for (int f = NONE; f < edges.size(); f++) {
                if (isMove(e, f)) all.add(new Move(e, f));
            }
        }
        return all;
    }

    List<Edge> edgesOf(Move move) {
        List<Edge> of = new ArrayList<>();
        of.add(edges.get(move.e));
        if (move.f != NONE) of.add(edges.get(move.f));
        return of;
    }

    List<Test> limitsAt(int[] at) {
        List<Test> all = new ArrayList<>();
        for (int m = 0; m < 3; m++) {
            all.addAll(limits.get(6 * m + at[m]));
        }
        return all;
    }

    private boolean keepLimits(Zone zone, int[] at) {
        for (Test test : limitsAt(at)) {
            zone.keep(test);
        }
        return zone.close();
    }

    /** Null if it is empty. */
    private Zone later(Zone zone, int[] at) {
        if (!keepLimits(zone, at)) return null;
        for (int x = 1; x < 4; x++) {
            zone.of[x][0] = null;
        }
        if (!keepLimits(zone, at)) return null;
        int[] most = new int[4];
        for (int x = 1; x < 4; x++) {
            most[x] = greatest(x);
        }
        return zone.widened(most);
    }

    int explore(int n) {
        if (!in(n, 1, 120)) return OUTSIDE;
        if (explored == 40) return FULL;
        explored++;
        states = new ArrayList<>();
        Zone zone = later(Zone.atZero(), new int[3]);
        if (zone == null) return 0;
        states.add(new Met(new int[3], zone, NONE, new Move(NONE, NONE), new ArrayList<>()));
        for (int i = 0; i < states.size(); i++) {
            for (Move move : moves()) {
                Met next = follow(i, move);
                if (next == null) continue;
                if (states.size() == n) return -1 - n;
                states.add(next);
            }
        }
        return states.size();
    }

    private Met follow(int i, Move move) {
        Met met = states.get(i);
        int[] at = met.places.clone();
        Zone zone = met.zone.copy();
        int resets = 0;
        for (Edge edge : edgesOf(move)) {
            if (met.places[edge.m] != edge.from) return null;
            at[edge.m] = edge.to;
            resets |= edge.resets;
            for (Test test : edge.guards) {
                zone.keep(test);
            }
        }
        if (met.way.size() == 40 || !zone.close()) return null;
        for (int x = 1; x < 4; x++) {
            if ((resets & 1 << x) != 0) zone.setBack(x);
        }
        zone = later(zone, at);
        if (zone == null) return null;
        for (Met other : states) {
            if (Arrays.equals(other.places, at) && other.zone.takesIn(zone)) return null;
        }
        List<Move> way = new ArrayList<>(met.way);
        way.add(move);
        return new Met(at, zone, i, move, way);
    }

    int state(int i, int what) {
        if (states == null) return STATE;
        if (!in(i, 0, states.size() - 1)) return UNKNOWN;
        Met met = states.get(i);
        return switch (what) {
            case 0, 1, 2 -> met.places[what];
            case 3 -> met.from;
            case 4 -> met.by.e;
            case 5 -> met.by.f;
            case 6 -> met.way.size();
            default -> OUTSIDE;
        };
    }

    int bound(int i, int x, int y) {
        if (states == null) return 100001;
        if (!in(i, 0, states.size() - 1) || !in(x, 0, 3) || !in(y, 0, 3)) return 100002;
        Bound b = states.get(i).zone.of[x][y];
        return b == null ? 100000 : 2 * b.number + (b.below ? 0 : 1);
    }

    int reach(int a, int b, int c) {
        if (states == null) return STATE;
        int[] want = {a, b, c};
        for (int p : want) {
            if (!in(p, -1, 5)) return OUTSIDE;
        }
        for (int i = 0; i < states.size(); i++) {
            int[] at = states.get(i).places;
            boolean same = true;
            for (int m = 0; m < 3; m++) {
                same &= want[m] == -1 || want[m] == at[m];
            }
            if (same) return i;
        }
        return NONE;
    }

    int has(int i, int a, int b, int c) {
        if (states == null) return STATE;
        if (!in(i, 0, states.size() - 1)) return UNKNOWN;
        if (!in(a, 0, 1000000) || !in(b, 0, 1000000) || !in(c, 0, 1000000)) return OUTSIDE;
        return states.get(i).zone.has(new long[] {0, a, b, c}) ? 1 : 0;
    }

    int way(int i, int k, int which) {
        if (states == null) return STATE;
        if (!in(i, 0, states.size() - 1) || !in(k, 0, states.get(i).way.size() - 1)) return UNKNOWN;
        if (!in(which, 0, 1)) return OUTSIDE;
        Move move = states.get(i).way.get(k);
        return which == 0 ? move.e : move.f;
    }

    int moment(int i, int k) {
        if (states == null) return STATE;
        if (!in(i, 0, states.size() - 1) || !in(k, 0, states.get(i).way.size() - 1)) return UNKNOWN;
        return (int) times(states.get(i).way)[k];
    }

    /** Least gaps between all pairs of times, closed over all times between. */
    private long[] times(List<Move> way) {
        int n = way.size() + 1;
        long[][] gap = new long[n][n];
        for (long[] row : gap) {
            Arrays.fill(row, Long.MIN_VALUE / 4);
        }
        int[] set = new int[4];
        int[] at = new int[3];
        for (int k = 1; k < n; k++) {
            gap[k - 1][k] = Math.max(gap[k - 1][k], 0);
            // On coming, and again on going: more than is needed, as the document tells it.
            tests(gap, limitsAt(at), set, k - 1);
            tests(gap, limitsAt(at), set, k);
            List<Edge> of = edgesOf(way.get(k - 1));
            for (Edge edge : of) {
                tests(gap, edge.guards, set, k);
            }
            for (Edge edge : of) {
                at[edge.m] = edge.to;
                for (int x = 1; x < 4; x++) {
                    if ((edge.resets & 1 << x) != 0) set[x] = k;
                }
            }
        }
        tests(gap, limitsAt(at), set, n - 1);
        for (int y = 0; y < n; y++) {
            for (int x = 0; x < n; x++) {
                for (int z = 0; z < n; z++) {
                    gap[x][z] = Math.max(gap[x][z], gap[x][y] + gap[y][z]);
                }
            }
        }
        for (int k = 0; k < n; k++) {
            if (gap[k][k] > 0) throw new IllegalStateException("the way is no run");
        }
        return Arrays.copyOfRange(gap[0], 1, n);
    }

    private static void tests(long[][] gap, List<Test> tests, int[] set, int k) {
        for (Test test : tests) {
            int since = set[test.clock];
            if (test.sort <= 2) {
                long most = 64L * test.c - (test.sort == 0 ? 1 : 0);
                gap[k][since] = Math.max(gap[k][since], -most);
            }
            if (test.sort >= 2) {
                long least = 64L * test.c + (test.sort == 4 ? 1 : 0);
                gap[since][k] = Math.max(gap[since][k], least);
            }
        }
    }

    int greatest(int x) {
        if (!in(x, 1, 3)) return UNKNOWN;
        int most = 0;
        List<Test> all = new ArrayList<>();
        limits.forEach(all::addAll);
        edges.forEach(edge -> all.addAll(edge.guards));
        for (Test test : all) {
            if (test.clock == x) most = Math.max(most, test.c);
        }
        return most;
    }

    private boolean limitsHold(int[] at, long[] now) {
        return limitsAt(at).stream().allMatch(test -> test.holds(now[test.clock]));
    }

    int begin() {
        places = null;
        if (!limitsHold(new int[3], new long[4])) return 0;
        places = new int[3];
        amounts = new long[4];
        time = 0;
        moved = 0;
        return 1;
    }

    int pass(int n) {
        if (!in(n, 1, 64000)) return OUTSIDE;
        if (places == null) return STATE;
        long[] then = amounts.clone();
        for (int x = 1; x < 4; x++) {
            then[x] += n;
            if (then[x] > 1000000) return STATE;
        }
        if (!limitsHold(places, then)) return 0;
        amounts = then;
        time += n;
        return 1;
    }

    int move(int e, int f) {
        if (!in(e, 0, edges.size() - 1) || f != NONE && !in(f, 0, edges.size() - 1)) return UNKNOWN;
        if (!isMove(e, f)) return OUTSIDE;
        if (places == null) return STATE;
        int[] at = places.clone();
        long[] then = amounts.clone();
        for (Edge edge : edgesOf(new Move(e, f))) {
            if (places[edge.m] != edge.from) return 0;
            if (!edge.guards.stream().allMatch(test -> test.holds(amounts[test.clock]))) return 0;
            at[edge.m] = edge.to;
            for (int x = 1; x < 4; x++) {
                if ((edge.resets & 1 << x) != 0) then[x] = 0;
            }
        }
        if (!limitsHold(at, then)) return 0;
        places = at;
        amounts = then;
        moved++;
        return 1;
    }

    int run(int what) {
        if (places == null) return STATE;
        return switch (what) {
            case 0, 1, 2 -> places[what];
            case 4, 5, 6 -> (int) amounts[what - 3];
            case 7 -> (int) time;
            case 8 -> moved;
            default -> OUTSIDE;
        };
    }

    int here() {
        if (places == null || states == null) return STATE;
        for (int i = 0; i < states.size(); i++) {
            Met met = states.get(i);
            if (Arrays.equals(met.places, places) && met.zone.has(amounts)) return i;
        }
        return NONE;
    }

    int about(int e, int what) {
        if (!in(e, 0, edges.size() - 1)) return UNKNOWN;
        Edge edge = edges.get(e);
        return switch (what) {
            case 0 -> edge.m;
            case 1 -> edge.from;
            case 2 -> edge.to;
            case 3 -> edge.channel;
            case 4 -> edge.resets;
            case 5 -> edge.guards.size();
            default -> OUTSIDE;
        };
    }

    int count(int what) {
        return switch (what) {
            case 0 -> edges.size();
            case 1 -> limits.stream().mapToInt(List::size).sum();
            case 2 -> edges.stream().mapToInt(edge -> edge.guards.size()).sum();
            case 3 -> states == null ? 0 : states.size();
            case 4 -> moves().size();
            case 5 -> states == null ? 1 : 0;
            case 6 -> explored;
            default -> OUTSIDE;
        };
    }

    long digest() {
        List<Long> all = new ArrayList<>();
        for (int e = 0; e < edges.size(); e++) {
            for (int what = 0; what <= 5; what++) {
                all.add((long) about(e, what));
            }
            tell(all, edges.get(e).guards);
        }
        for (List<Test> tests : limits) {
            all.add((long) tests.size());
            tell(all, tests);
        }
        for (int i = 0; i < count(3); i++) {
            for (int what = 0; what <= 6; what++) {
                all.add((long) state(i, what));
            }
            for (int pair = 0; pair < 16; pair++) {
                all.add((long) bound(i, pair / 4, pair % 4));
            }
        }
        all.add(places == null ? 0L : 1L);
        for (int what : new int[] {0, 1, 2, 4, 5, 6, 7, 8}) {
            all.add((long) run(what));
        }
        long h = 71;
        for (long number : all) {
            h = 31 * h + number;
        }
        return h;
    }

    private static void tell(List<Long> all, List<Test> tests) {
        for (Test test : tests) {
            all.add((long) test.clock);
            all.add((long) test.sort);
            all.add((long) test.c);
        }
    }
}
