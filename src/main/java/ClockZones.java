import java.util.Arrays;

/**
 * A net of up to three machines with three clocks: the net is told, all that can be reached
 * is found by zones (bounds on clocks and on differences of clocks), each state that is met
 * has a way with earliest times, and one run at a time can be walked by hand.
 */
public final class ClockZones {
    public static final int NONE = -1, UNKNOWN = -101, OUTSIDE = -102, STATE = -103, FULL = -104;

    private static final int MACHINES = 3;
    private static final int PLACES = 6;
    /** Clock 0 is the one that is always 0, so that a bound on one clock is a difference too. */
    private static final int CLOCKS = 4;
    private static final int PAIRS = CLOCKS * CLOCKS;
    private static final int CHANNELS = 4;
    private static final int ALL_RESETS = 14;

    private static final int MOST_EDGES = 20;
    private static final int MOST_TESTS = 2;
    private static final int MOST_NUMBER = 1000;
    private static final int MOST_STATES = 120;
    private static final int MOST_STEPS = 40;
    private static final int MOST_EXPLORES = 40;
    private static final int MOST_AMOUNT = 1000000;
    private static final int MOST_PASS = 64000;
    /** Amounts of clocks and moments are told in 64ths of a whole number. */
    private static final int PARTS = 64;

    private static final int BELOW = 0, AT_MOST = 1, JUST = 2, AT_LEAST = 3, ABOVE = 4;

    /**
     * A bound is twice its number, and 1 if the number itself is within: then the narrower one
     * of two bounds is just the smaller int.
     */
    private static final int OPEN = 100000, AT_MOST_ZERO = 1;
    private static final int BOUND_STATE = 100001, BOUND_UNKNOWN = 100002;

    /** What is told of a state: facts 0 to 2 are the places of the machines. */
    private static final int FROM = 3, FIRST = 4, SECOND = 5, STEPS = 6, FACTS = 7;

    private final Net net = new Net();
    private final Search search = new Search();
    private final Walk walk = new Walk();
    private final Timetable timetable = new Timetable();
    private final int[] askedPlaces = new int[MACHINES];
    private final int[] askedAmounts = new int[CLOCKS];

    public ClockZones() {
    }

    // ---- the net

    public int edge(int m, int from, int to, int channel, int resets) {
        if (!isMachine(m) || !isPlace(from) || !isPlace(to)) {
            return UNKNOWN;
        }
        if (channel < -CHANNELS || channel > CHANNELS || (resets & ~ALL_RESETS) != 0) {
            return OUTSIDE;
        }
        if (net.edgeCount >= MOST_EDGES) {
            return FULL;
        }
        forgetFindings();
        return net.addEdge(new Edge(m, from, to, channel, resets));
    }

    public int guard(int e, int x, int sort, int c) {
        if (!net.isEdge(e) || !isClock(x)) {
            return UNKNOWN;
        }
        if (sort < BELOW || sort > ABOVE || !isNumber(c)) {
            return OUTSIDE;
        }
        return addTest(net.edges[e].guards, x, sort, c);
    }

    public int limit(int m, int p, int x, int sort, int c) {
        if (!isMachine(m) || !isPlace(p) || !isClock(x)) {
            return UNKNOWN;
        }
        if (sort < BELOW || sort > AT_MOST || !isNumber(c)) {
            return OUTSIDE;
        }
        return addTest(net.limitsOf(m, p), x, sort, c);
    }

    public int wipe() {
        int gone = net.edgeCount;
        net.clear();
        forgetFindings();
        return gone;
    }

    // ---- all that can be reached

    public int explore(int n) {
        if (n < 1 || n > MOST_STATES) {
            return OUTSIDE;
        }
        if (search.timesDone >= MOST_EXPLORES) {
            return FULL;
        }
        return search.meetAll(net, n);
    }

    public int state(int i, int what) {
        if (search.isNeeded) {
            return STATE;
        }
        if (!search.states.isMet(i)) {
            return UNKNOWN;
        }
        if (what < 0 || what >= FACTS) {
            return OUTSIDE;
        }
        return search.states.fact(i, what);
    }

    public int bound(int i, int x, int y) {
        if (search.isNeeded) {
            return BOUND_STATE;
        }
        if (!search.states.isMet(i) || !isClockOrZero(x) || !isClockOrZero(y)) {
            return BOUND_UNKNOWN;
        }
        return search.states.boundOf(i, x, y);
    }

    public int reach(int a, int b, int c) {
        if (search.isNeeded) {
            return STATE;
        }
        if (!isPlaceOrAny(a) || !isPlaceOrAny(b) || !isPlaceOrAny(c)) {
            return OUTSIDE;
        }
        askedPlaces[0] = a;
        askedPlaces[1] = b;
        askedPlaces[2] = c;
        return search.states.firstAt(askedPlaces);
    }

    public int has(int i, int a, int b, int c) {
        if (search.isNeeded) {
            return STATE;
        }
        if (!search.states.isMet(i)) {
            return UNKNOWN;
        }
        if (!isAmount(a) || !isAmount(b) || !isAmount(c)) {
            return OUTSIDE;
        }
        askedAmounts[1] = a;
        askedAmounts[2] = b;
        askedAmounts[3] = c;
        return search.states.holds(i, askedAmounts) ? 1 : 0;
    }

    public int way(int i, int k, int which) {
        if (search.isNeeded) {
            return STATE;
        }
        if (!search.states.isStep(i, k)) {
            return UNKNOWN;
        }
        if (which < 0 || which > 1) {
            return OUTSIDE;
        }
        return search.states.fact(search.states.onWay(i, k), which == 0 ? FIRST : SECOND);
    }

    public int moment(int i, int k) {
        if (search.isNeeded) {
            return STATE;
        }
        if (!search.states.isStep(i, k)) {
            return UNKNOWN;
        }
        timetable.fill(net, search.states, i);
        return timetable.earliest[k + 1];
    }

    public int greatest(int x) {
        return isClock(x) ? net.greatestOf(x) : UNKNOWN;
    }

    // ---- a run

    public int begin() {
        return walk.start(net) ? 1 : 0;
    }

    public int pass(int n) {
        if (n < 1 || n > MOST_PASS) {
            return OUTSIDE;
        }
        if (!walk.isGoing || walk.greatestAmount() + n > MOST_AMOUNT) {
            return STATE;
        }
        return walk.linger(net, n) ? 1 : 0;
    }

    public int move(int e, int f) {
        if (!net.isEdge(e) || (f != NONE && !net.isEdge(f))) {
            return UNKNOWN;
        }
        Move step = net.find(e, f);
        if (step == null) {
            return OUTSIDE;
        }
        if (!walk.isGoing) {
            return STATE;
        }
        return walk.take(net, step) ? 1 : 0;
    }

    public int run(int what) {
        if (!walk.isGoing) {
            return STATE;
        }
        if (what >= 0 && what < MACHINES) {
            return walk.places[what];
        }
        if (what > MACHINES && what < MACHINES + CLOCKS) {
            return walk.amounts[what - MACHINES];
        }
        switch (what) {
            case 7: return walk.allTime;
            case 8: return walk.stepCount;
            default: return OUTSIDE;
        }
    }

    public int here() {
        if (!walk.isGoing || search.isNeeded) {
            return STATE;
        }
        return search.states.firstHolding(walk.places, walk.amounts);
    }

    // ---- what is told

    public int about(int e, int what) {
        if (!net.isEdge(e)) {
            return UNKNOWN;
        }
        Edge told = net.edges[e];
        switch (what) {
            case 0: return told.machine;
            case 1: return told.from;
            case 2: return told.to;
            case 3: return told.channel;
            case 4: return told.resets;
            case 5: return told.guards.size;
            default: return OUTSIDE;
        }
    }

    public int count(int what) {
        switch (what) {
            case 0: return net.edgeCount;
            case 1: return net.limitCount();
            case 2: return net.guardCount();
            case 3: return search.isNeeded ? 0 : search.states.size;
            case 4: return net.moveCount;
            case 5: return search.isNeeded ? 1 : 0;
            case 6: return search.timesDone;
            default: return OUTSIDE;
        }
    }

    public long digest() {
        long h = mixEdges(71);
        h = mixLimits(h);
        if (!search.isNeeded) {
            h = mixStates(h);
        }
        return mixWalk(h);
    }

    // ---- helpers of the calls

    private static boolean isMachine(int m) {
        return m >= 0 && m < MACHINES;
    }

    private static boolean isPlace(int p) {
        return p >= 0 && p < PLACES;
    }

    private static boolean isPlaceOrAny(int p) {
        return p == -1 || isPlace(p);
    }

    private static boolean isClockOrZero(int x) {
        return x >= 0 && x < CLOCKS;
    }

    private static boolean isClock(int x) {
        return x != 0 && isClockOrZero(x);
    }

    private static boolean isNumber(int c) {
        return c >= 0 && c <= MOST_NUMBER;
    }

    private static boolean isAmount(int a) {
        return a >= 0 && a <= MOST_AMOUNT;
    }

    /** A net told anew makes the old states and the old run say nothing about it. */
    private void forgetFindings() {
        search.isNeeded = true;
        walk.isGoing = false;
    }

    private int addTest(TestList list, int x, int sort, int c) {
        if (list.size >= MOST_TESTS) {
            return FULL;
        }
        forgetFindings();
        list.add(new Test(x, sort, c));
        return list.size;
    }

    private static long mix(long h, long number) {
        return 31 * h + number;
    }

    private static long mixTests(long start, TestList list) {
        long h = start;
        for (int i = 0; i < list.size; i++) {
            Test test = list.tests[i];
            h = mix(mix(mix(h, test.clock), test.sort), test.number);
        }
        return h;
    }

    private long mixEdges(long start) {
        long h = start;
        for (int e = 0; e < net.edgeCount; e++) {
            for (int what = 0; what <= 5; what++) {
                h = mix(h, about(e, what));
            }
            h = mixTests(h, net.edges[e].guards);
        }
        return h;
    }

    private long mixLimits(long start) {
        long h = start;
        for (int m = 0; m < MACHINES; m++) {
            for (int p = 0; p < PLACES; p++) {
                TestList list = net.limitsOf(m, p);
                h = mixTests(mix(h, list.size), list);
            }
        }
        return h;
    }

    private long mixStates(long start) {
        long h = start;
        for (int i = 0; i < search.states.size; i++) {
            for (int what = 0; what < FACTS; what++) {
                h = mix(h, state(i, what));
            }
            for (int x = 0; x < CLOCKS; x++) {
                for (int y = 0; y < CLOCKS; y++) {
                    h = mix(h, bound(i, x, y));
                }
            }
        }
        return h;
    }

    private long mixWalk(long start) {
        long h = mix(start, walk.isGoing ? 1 : 0);
        for (int what = 0; what <= 8; what++) {
            if (what != MACHINES) {
                h = mix(h, run(what));
            }
        }
        return h;
    }

    /** A comparison of one clock with a whole number. */
    private static final class Test {
        final int clock;
        final int sort;
        final int number;

        Test(int clock, int sort, int number) {
            this.clock = clock;
            this.sort = sort;
            this.number = number;
        }

        boolean isCeiling() {
            return sort <= JUST;
        }

        boolean isFloor() {
            return sort >= JUST;
        }

        /** The bound of the clock less 0. */
        int ceiling() {
            return 2 * number + (sort == BELOW ? 0 : 1);
        }

        /** The bound of 0 less the clock. */
        int floor() {
            return -2 * number + (sort == ABOVE ? 0 : 1);
        }

        int mostParts() {
            return PARTS * number - (sort == BELOW ? 1 : 0);
        }

        int leastParts() {
            return PARTS * number + (sort == ABOVE ? 1 : 0);
        }

        boolean allows(int amount) {
            return (!isCeiling() || amount <= mostParts()) && (!isFloor() || amount >= leastParts());
        }
    }

    /** The guards of an edge or the limits of a place. */
    private static final class TestList {
        final Test[] tests = new Test[MOST_TESTS];
        int size;

        void add(Test test) {
            if (size < MOST_TESTS) {
                tests[size] = test;
                size++;
            }
        }

        boolean allow(int[] amounts) {
            for (int i = 0; i < size; i++) {
                if (!tests[i].allows(amounts[tests[i].clock])) {
                    return false;
                }
            }
            return true;
        }

        /** False if nothing of the zone is left. */
        boolean narrow(Zone zone) {
            for (int i = 0; i < size; i++) {
                Test test = tests[i];
                if (test.isCeiling() && !zone.narrow(test.clock, 0, test.ceiling())) {
                    return false;
                }
                if (test.isFloor() && !zone.narrow(0, test.clock, test.floor())) {
                    return false;
                }
            }
            return true;
        }

        int greatestNumber(int clock) {
            int most = 0;
            for (int i = 0; i < size; i++) {
                if (tests[i].clock == clock) {
                    most = Math.max(most, tests[i].number);
                }
            }
            return most;
        }
    }

    private static final class Edge {
        final int machine;
        final int from;
        final int to;
        final int channel;
        final int resets;
        final TestList guards = new TestList();

        Edge(int machine, int from, int to, int channel, int resets) {
            this.machine = machine;
            this.from = from;
            this.to = to;
            this.channel = channel;
            this.resets = resets;
        }

        boolean isAnsweredBy(Edge other) {
            return channel > 0 && other.channel == -channel && other.machine != machine;
        }
    }

    /** One edge alone (then second is NONE and answer is null), or a call and its answer at once. */
    private static final class Move {
        final int first;
        final int second;
        final Edge call;
        final Edge answer;
        final int resets;

        Move(int first, int second, Edge call, Edge answer) {
            this.first = first;
            this.second = second;
            this.call = call;
            this.answer = answer;
            this.resets = answer == null ? call.resets : call.resets | answer.resets;
        }

        boolean comesAfter(Move other) {
            return first != other.first ? first > other.first : second > other.second;
        }

        boolean startsAt(int[] places) {
            return places[call.machine] == call.from
                && (answer == null || places[answer.machine] == answer.from);
        }

        void carry(int[] places) {
            places[call.machine] = call.to;
            if (answer != null) {
                places[answer.machine] = answer.to;
            }
        }

        boolean sets(int clock) {
            return (resets >> clock & 1) != 0;
        }

        boolean guardsAllow(int[] amounts) {
            return call.guards.allow(amounts) && (answer == null || answer.guards.allow(amounts));
        }

        boolean guardsNarrow(Zone zone) {
            return call.guards.narrow(zone) && (answer == null || answer.guards.narrow(zone));
        }
    }

    /** What was told: edges, limits, and the moves that follow from the edges, in their order. */
    private static final class Net {
        final Edge[] edges = new Edge[MOST_EDGES];
        int edgeCount;
        final Move[] moves = new Move[MOST_EDGES * MOST_EDGES];
        int moveCount;
        private final TestList[] limits = new TestList[MACHINES * PLACES];

        Net() {
            for (int i = 0; i < MACHINES * PLACES; i++) {
                limits[i] = new TestList();
            }
        }

        boolean isEdge(int e) {
            return e >= 0 && e < edgeCount;
        }

        TestList limitsOf(int m, int p) {
            return limits[m * PLACES + p];
        }

        int addEdge(Edge added) {
            int number = edgeCount;
            if (number >= MOST_EDGES) {
                return FULL;
            }
            edges[number] = added;
            edgeCount++;
            if (added.channel == 0) {
                insert(new Move(number, NONE, added, null));
            }
            for (int other = 0; other < number; other++) {
                if (added.isAnsweredBy(edges[other])) {
                    insert(new Move(number, other, added, edges[other]));
                } else if (edges[other].isAnsweredBy(added)) {
                    insert(new Move(other, number, edges[other], added));
                }
            }
            return number;
        }

        private void insert(Move added) {
            if (moveCount >= moves.length) {
                return;
            }
            int at = moveCount;
            while (at > 0 && moves[at - 1].comesAfter(added)) {
                moves[at] = moves[at - 1];
                at--;
            }
            moves[at] = added;
            moveCount++;
        }

        /** Null if the two are no move. */
        Move find(int first, int second) {
            for (int k = 0; k < moveCount; k++) {
                if (moves[k].first == first && moves[k].second == second) {
                    return moves[k];
                }
            }
            return null;
        }

        void clear() {
            edgeCount = 0;
            moveCount = 0;
            for (int i = 0; i < MACHINES * PLACES; i++) {
                limits[i].size = 0;
            }
        }

        boolean limitsAllow(int[] places, int[] amounts) {
            for (int m = 0; m < MACHINES; m++) {
                if (!limitsOf(m, places[m]).allow(amounts)) {
                    return false;
                }
            }
            return true;
        }

        boolean limitsNarrow(int[] places, Zone zone) {
            for (int m = 0; m < MACHINES; m++) {
                if (!limitsOf(m, places[m]).narrow(zone)) {
                    return false;
                }
            }
            return true;
        }

        int greatestOf(int clock) {
            int most = 0;
            for (int e = 0; e < edgeCount; e++) {
                most = Math.max(most, edges[e].guards.greatestNumber(clock));
            }
            for (int i = 0; i < MACHINES * PLACES; i++) {
                most = Math.max(most, limits[i].greatestNumber(clock));
            }
            return most;
        }

        int guardCount() {
            int all = 0;
            for (int e = 0; e < edgeCount; e++) {
                all += edges[e].guards.size;
            }
            return all;
        }

        int limitCount() {
            int all = 0;
            for (int i = 0; i < MACHINES * PLACES; i++) {
                all += limits[i].size;
            }
            return all;
        }
    }

    /** A closed zone that is not empty; a step that would empty it says so and leaves it unfit. */
    private static final class Zone {
        /** The bound of x less y stands at CLOCKS * x + y. */
        final int[] bounds = new int[PAIRS];

        static int sum(int a, int b) {
            if (a == OPEN || b == OPEN) {
                return OPEN;
            }
            return a + b - ((a | b) & 1);
        }

        void putAllClocksAtZero() {
            Arrays.fill(bounds, AT_MOST_ZERO);
        }

        /** Only ways through the one new bound can be shorter, so this keeps the zone closed. */
        boolean narrow(int x, int y, int bound) {
            if (bound >= bounds[CLOCKS * x + y]) {
                return true;
            }
            if (sum(bound, bounds[CLOCKS * y + x]) < AT_MOST_ZERO) {
                return false;
            }
            for (int i = 0; i < CLOCKS; i++) {
                int start = sum(bounds[CLOCKS * i + x], bound);
                if (start == OPEN) {
                    continue;
                }
                for (int j = 0; j < CLOCKS; j++) {
                    int through = sum(start, bounds[CLOCKS * y + j]);
                    if (through < bounds[CLOCKS * i + j]) {
                        bounds[CLOCKS * i + j] = through;
                    }
                }
            }
            return true;
        }

        void setToZero(int x) {
            for (int y = 0; y < CLOCKS; y++) {
                bounds[CLOCKS * x + y] = bounds[y];
                bounds[CLOCKS * y + x] = bounds[CLOCKS * y];
            }
            bounds[CLOCKS * x + x] = AT_MOST_ZERO;
        }

        void letTimeGoBy() {
            for (int x = 1; x < CLOCKS; x++) {
                bounds[CLOCKS * x] = OPEN;
            }
        }

        /** A bound changed here is never changed again by another clock, so one pass is enough. */
        void widen(int[] most) {
            for (int x = 1; x < CLOCKS; x++) {
                for (int y = 0; y < CLOCKS; y++) {
                    if (x == y) {
                        continue;
                    }
                    if (bounds[CLOCKS * x + y] >> 1 > most[x]) {
                        bounds[CLOCKS * x + y] = OPEN;
                    }
                    if (bounds[CLOCKS * y + x] >> 1 < -most[x]) {
                        bounds[CLOCKS * y + x] = -2 * most[x];
                    }
                }
            }
            close();
        }

        private void close() {
            for (int z = 0; z < CLOCKS; z++) {
                for (int x = 0; x < CLOCKS; x++) {
                    int start = bounds[CLOCKS * x + z];
                    if (start == OPEN) {
                        continue;
                    }
                    for (int y = 0; y < CLOCKS; y++) {
                        int through = sum(start, bounds[CLOCKS * z + y]);
                        if (through < bounds[CLOCKS * x + y]) {
                            bounds[CLOCKS * x + y] = through;
                        }
                    }
                }
            }
        }
    }

    /** The states met so far, row by row in two arrays that every exploration uses again. */
    private static final class States {
        int size;
        private final int[] facts = new int[MOST_STATES * FACTS];
        private final int[] bounds = new int[MOST_STATES * PAIRS];

        boolean isMet(int i) {
            return i >= 0 && i < size;
        }

        boolean isStep(int i, int k) {
            return isMet(i) && k >= 0 && k < fact(i, STEPS);
        }

        int fact(int i, int what) {
            return facts[i * FACTS + what];
        }

        int boundOf(int i, int x, int y) {
            return bounds[i * PAIRS + x * CLOCKS + y];
        }

        void add(int[] newFacts, Zone zone) {
            if (size < MOST_STATES) {
                System.arraycopy(newFacts, 0, facts, size * FACTS, FACTS);
                System.arraycopy(zone.bounds, 0, bounds, size * PAIRS, PAIRS);
                size++;
            }
        }

        void copyFacts(int i, int[] target) {
            System.arraycopy(facts, i * FACTS, target, 0, FACTS);
        }

        void copyZone(int i, Zone target) {
            System.arraycopy(bounds, i * PAIRS, target.bounds, 0, PAIRS);
        }

        /** The state that move k (from 0) of the way to state i leads to. */
        int onWay(int i, int k) {
            int at = i;
            for (int step = fact(i, STEPS) - 1; step > k; step--) {
                at = fact(at, FROM);
            }
            return at;
        }

        private boolean isAt(int i, int[] places) {
            for (int m = 0; m < MACHINES; m++) {
                if (places[m] != NONE && places[m] != fact(i, m)) {
                    return false;
                }
            }
            return true;
        }

        /** A place of NONE stands for any. */
        int firstAt(int[] places) {
            for (int i = 0; i < size; i++) {
                if (isAt(i, places)) {
                    return i;
                }
            }
            return NONE;
        }

        int firstHolding(int[] places, int[] amounts) {
            for (int i = 0; i < size; i++) {
                if (isAt(i, places) && holds(i, amounts)) {
                    return i;
                }
            }
            return NONE;
        }

        boolean cover(int[] places, Zone zone) {
            for (int i = 0; i < size; i++) {
                if (isAt(i, places) && takesIn(i, zone)) {
                    return true;
                }
            }
            return false;
        }

        /** Both zones are closed, so bound by bound is enough. */
        private boolean takesIn(int i, Zone zone) {
            for (int pair = 0; pair < PAIRS; pair++) {
                if (zone.bounds[pair] > bounds[i * PAIRS + pair]) {
                    return false;
                }
            }
            return true;
        }

        boolean holds(int i, int[] amounts) {
            for (int x = 0; x < CLOCKS; x++) {
                for (int y = 0; y < CLOCKS; y++) {
                    int due = boundOf(i, x, y);
                    int most = PARTS * (due >> 1) - 1 + (due & 1);
                    if (due != OPEN && amounts[x] - amounts[y] > most) {
                        return false;
                    }
                }
            }
            return true;
        }
    }

    /** Meets the states, breadth first in the order of the moves. */
    private static final class Search {
        final States states = new States();
        boolean isNeeded = true;
        int timesDone;
        private final int[] facts = new int[FACTS];
        private final Zone zone = new Zone();
        private final int[] most = new int[CLOCKS];

        int meetAll(Net net, int n) {
            prepare(net);
            standAtStart();
            if (settles(net)) {
                states.add(facts, zone);
            }
            for (int i = 0; i < states.size && i < MOST_STATES; i++) {
                for (int k = 0; k < net.moveCount; k++) {
                    if (!goesBy(i, net.moves[k]) || !settles(net) || states.cover(facts, zone)) {
                        continue;
                    }
                    if (states.size >= n) {
                        return -1 - n;
                    }
                    states.add(facts, zone);
                }
            }
            return states.size;
        }

        private void prepare(Net net) {
            states.size = 0;
            isNeeded = false;
            timesDone++;
            for (int x = 1; x < CLOCKS; x++) {
                most[x] = net.greatestOf(x);
            }
        }

        private void standAtStart() {
            Arrays.fill(facts, 0);
            facts[FROM] = NONE;
            facts[FIRST] = NONE;
            facts[SECOND] = NONE;
            zone.putAllClocksAtZero();
        }

        /** False if the move is not open anywhere in state i, or its way would be too long. */
        private boolean goesBy(int i, Move step) {
            states.copyFacts(i, facts);
            if (facts[STEPS] >= MOST_STEPS || !step.startsAt(facts)) {
                return false;
            }
            states.copyZone(i, zone);
            if (!step.guardsNarrow(zone)) {
                return false;
            }
            for (int x = 1; x < CLOCKS; x++) {
                if (step.sets(x)) {
                    zone.setToZero(x);
                }
            }
            step.carry(facts);
            facts[FROM] = i;
            facts[FIRST] = step.first;
            facts[SECOND] = step.second;
            facts[STEPS]++;
            return true;
        }

        /** Limits are kept on coming and again while time goes by; false if nothing is left. */
        private boolean settles(Net net) {
            if (!net.limitsNarrow(facts, zone)) {
                return false;
            }
            zone.letTimeGoBy();
            if (!net.limitsNarrow(facts, zone)) {
                return false;
            }
            zone.widen(most);
            return true;
        }
    }

    /** The one run that is walked by hand. */
    private static final class Walk {
        boolean isGoing;
        final int[] places = new int[MACHINES];
        final int[] amounts = new int[CLOCKS];
        int allTime;
        int stepCount;
        private final int[] nextPlaces = new int[MACHINES];
        private final int[] nextAmounts = new int[CLOCKS];

        boolean start(Net net) {
            Arrays.fill(places, 0);
            Arrays.fill(amounts, 0);
            allTime = 0;
            stepCount = 0;
            isGoing = net.limitsAllow(places, amounts);
            return isGoing;
        }

        int greatestAmount() {
            return Math.max(amounts[1], Math.max(amounts[2], amounts[3]));
        }

        /** Limits are ceilings alone: if they hold at the end, they held all the while. */
        boolean linger(Net net, int n) {
            for (int x = 1; x < CLOCKS; x++) {
                nextAmounts[x] = amounts[x] + n;
            }
            if (!net.limitsAllow(places, nextAmounts)) {
                return false;
            }
            System.arraycopy(nextAmounts, 0, amounts, 0, CLOCKS);
            allTime += n;
            return true;
        }

        boolean take(Net net, Move step) {
            if (!step.startsAt(places) || !step.guardsAllow(amounts)) {
                return false;
            }
            System.arraycopy(places, 0, nextPlaces, 0, MACHINES);
            step.carry(nextPlaces);
            for (int x = 1; x < CLOCKS; x++) {
                nextAmounts[x] = step.sets(x) ? 0 : amounts[x];
            }
            if (!net.limitsAllow(nextPlaces, nextAmounts)) {
                return false;
            }
            System.arraycopy(nextPlaces, 0, places, 0, MACHINES);
            System.arraycopy(nextAmounts, 0, amounts, 0, CLOCKS);
            stepCount++;
            return true;
        }
    }

    /**
     * The earliest times of the way to a state. An amount of a clock is the time since it was
     * last set back, so every test on the way is a least gap between two times: the least
     * times that keep all gaps are the longest ways from the beginning.
     */
    private static final class Timetable {
        /** For each move up to two edges with two guards of two gaps, six limits, and the order. */
        private static final int MOST_GAPS = (MOST_STEPS + 1) * 15;

        /** Time 0 is the beginning, time k is that of the k-th move. */
        final int[] earliest = new int[MOST_STEPS + 1];
        private final int[] visited = new int[MOST_STEPS + 1];
        private final int[] lastSet = new int[CLOCKS];
        private final int[] gapFrom = new int[MOST_GAPS];
        private final int[] gapTo = new int[MOST_GAPS];
        private final int[] gapLeast = new int[MOST_GAPS];
        private int gapCount;

        void fill(Net net, States states, int i) {
            int steps = Math.min(states.fact(i, STEPS), MOST_STEPS);
            visit(states, i, steps);
            gapCount = 0;
            Arrays.fill(lastSet, 0);
            for (int k = 1; k <= steps; k++) {
                addGap(k - 1, k, 0);
                addLimits(net, states, visited[k - 1], k);
                int met = visited[k];
                addStep(net.find(states.fact(met, FIRST), states.fact(met, SECOND)), k);
            }
            addLimits(net, states, visited[steps], steps);
            settle();
        }

        private void visit(States states, int i, int steps) {
            int at = i;
            for (int k = steps; k > 0; k--) {
                visited[k] = at;
                at = states.fact(at, FROM);
            }
            visited[0] = at;
        }

        private void addStep(Move step, int k) {
            if (step == null) {
                return;
            }
            addTests(step.call.guards, k);
            if (step.answer != null) {
                addTests(step.answer.guards, k);
            }
            for (int x = 1; x < CLOCKS; x++) {
                if (step.sets(x)) {
                    lastSet[x] = k;
                }
            }
        }

        private void addLimits(Net net, States states, int met, int k) {
            for (int m = 0; m < MACHINES; m++) {
                addTests(net.limitsOf(m, states.fact(met, m)), k);
            }
        }

        private void addTests(TestList list, int k) {
            for (int i = 0; i < list.size; i++) {
                Test test = list.tests[i];
                int since = lastSet[test.clock];
                if (test.isCeiling()) {
                    addGap(k, since, -test.mostParts());
                }
                if (test.isFloor()) {
                    addGap(since, k, test.leastParts());
                }
            }
        }

        private void addGap(int from, int to, int least) {
            if (gapCount < MOST_GAPS) {
                gapFrom[gapCount] = from;
                gapTo[gapCount] = to;
                gapLeast[gapCount] = least;
                gapCount++;
            }
        }

        /** A longest way goes through each time once at most, which bounds the rounds. */
        private void settle() {
            Arrays.fill(earliest, 0);
            boolean changed = true;
            for (int round = 0; changed && round <= MOST_STEPS + 1; round++) {
                changed = false;
                for (int g = 0; g < gapCount; g++) {
                    int due = earliest[gapFrom[g]] + gapLeast[g];
                    if (due > earliest[gapTo[g]]) {
                        earliest[gapTo[g]] = due;
                        changed = true;
                    }
                }
            }
        }
    }
}
