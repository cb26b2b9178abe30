import java.util.ArrayDeque;
import java.util.Arrays;
import java.util.HashSet;
import java.util.Random;
import java.util.Set;

/**
 * Promises 6 and 9 against another way of finding all that can be reached: by regions. A region
 * is one place of each machine, and of each clock its whole part and the order of what is behind
 * it, or that it is above all its numbers. It is kept as one sample in 8ths.
 */
public final class RegionTest {
    private static final int RUNS = 1500;
    private static final int ABOVE = -1;

    private final Asked asked = new Asked();
    private final PlainModel model = new PlainModel();
    private final Random random;
    private final String name;
    private final int[] greatest = new int[4];
    /** The places of each state, as one number. */
    private int[] placesOf;

    private RegionTest(int run) {
        random = new Random(run);
        name = "net " + run;
    }

    public static void main(String[] args) {
        for (int run = 0; run < RUNS && !Due.isLost(); run++) {
            new RegionTest(run).go();
        }
        Due.done();
    }

    private void go() {
        tell();
        int all = asked.tell(x -> x.explore(120));
        if (all < 0) {
            return;
        }
        boolean[] met = new boolean[216];
        placesOf = new int[all];
        for (int state = 0; state < all; state++) {
            int i = state;
            if (asked.ask(x -> x.state(i, 6)) == 40) {
                return;
            }
            for (int m = 0; m < 3; m++) {
                int machine = m;
                placesOf[i] = 6 * placesOf[i] + asked.ask(x -> x.state(i, machine));
            }
            met[placesOf[i]] = true;
        }
        boolean[] due = search();
        for (int p = 0; p < 216; p++) {
            int a = p / 36, b = p / 6 % 6, c = p % 6;
            String places = name + ": places " + a + ", " + b + ", " + c;
            Due.be(places, met[p] ? 1 : 0, due[p] ? 1 : 0);
            Due.be(places + " by reach()", asked.ask(x -> x.reach(a, b, c)) >= 0 ? 1 : 0, due[p] ? 1 : 0);
        }
    }

    private void tell() {
        int most = 1 + random.nextInt(3), places = 2 + random.nextInt(3);
        int edges = 4 + random.nextInt(10);
        for (int edge = 0; edge < edges; edge++) {
            int e = edge;
            int m = random.nextInt(3), from = random.nextInt(Math.min(places, 1 + e / 3));
            int to = random.nextInt(places);
            int channel = random.nextInt(3) == 0 ? random.nextInt(3) - 1 : 0;
            int resets = 2 * (random.nextInt(8) & random.nextInt(8));
            asked.tell(x -> x.edge(m, from, to, channel, resets));
            model.edge(m, from, to, channel, resets);
            for (int g = random.nextInt(3); g > 0; g--) {
                int clock = 1 + random.nextInt(3), sort = random.nextInt(5), c = random.nextInt(most + 1);
                asked.tell(x -> x.guard(e, clock, sort, c));
                model.guard(e, clock, sort, c);
            }
        }
        for (int l = random.nextInt(6); l > 0; l--) {
            int m = random.nextInt(3), p = random.nextInt(places), clock = 1 + random.nextInt(3);
            int sort = random.nextInt(2), c = random.nextInt(most + 1);
            asked.tell(x -> x.limit(m, p, clock, sort, c));
            model.limit(m, p, clock, sort, c);
        }
        for (int clock = 1; clock <= 3; clock++) {
            greatest[clock] = model.greatest(clock);
        }
    }

    /** A region as the numbers 0 to 2: places, 3 to 5: clocks in 8ths or ABOVE. */
    private boolean[] search() {
        boolean[] seenPlaces = new boolean[216];
        Set<String> seen = new HashSet<>();
        ArrayDeque<int[]> open = new ArrayDeque<>();
        meet(new int[6], seen, open);
        while (!open.isEmpty()) {
            int[] at = open.remove();
            seenPlaces[36 * at[0] + 6 * at[1] + at[2]] = true;
            isInSomeZone(at);
            meet(later(at), seen, open);
            for (int e = 0; e < model.count(0); e++) {
                for (int f = -1; f < model.count(0); f++) {
                    int[] next = model.isMove(e, f) ? moved(at, e, f) : null;
                    if (next != null) {
                        meet(next, seen, open);
                    }
                }
            }
        }
        return seenPlaces;
    }

    private void meet(int[] at, Set<String> seen, ArrayDeque<int[]> open) {
        if (limitsHold(at) && seen.add(Arrays.toString(at))) {
            open.add(at);
        }
    }

    private void isInSomeZone(int[] at) {
        if (at[3] == ABOVE || at[4] == ABOVE || at[5] == ABOVE) {
            return;
        }
        int places = 36 * at[0] + 6 * at[1] + at[2];
        boolean within = false;
        for (int state = 0; state < placesOf.length && !within; state++) {
            int i = state;
            within = placesOf[i] == places && asked.ask(x -> x.has(i, 8 * at[3], 8 * at[4], 8 * at[5])) == 1;
        }
        Due.hold(name + ": " + Arrays.toString(at) + " is in a zone", within);
    }

    private boolean holds(PlainModel.Test test, int[] at) {
        int eighths = at[2 + test.clock()];
        return test.holds(eighths == ABOVE ? 1000000 : 8 * eighths);
    }

    private boolean limitsHold(int[] at) {
        for (PlainModel.Test test : model.limitsAt(at)) {
            if (!holds(test, at)) {
                return false;
            }
        }
        return true;
    }

    private int[] moved(int[] at, int e, int f) {
        int[] next = at.clone();
        for (PlainModel.Edge edge : model.edgesOf(new PlainModel.Move(e, f))) {
            if (at[edge.m()] != edge.from()) {
                return null;
            }
            for (PlainModel.Test test : edge.guards()) {
                if (!holds(test, at)) {
                    return null;
                }
            }
            next[edge.m()] = edge.to();
            for (int clock = 1; clock <= 3; clock++) {
                if ((edge.resets() & 1 << clock) != 0) {
                    next[2 + clock] = 0;
                }
            }
        }
        return sample(next);
    }

    /** The region that comes next when time goes by: the next clock is whole, or just past it. */
    private int[] later(int[] at) {
        int[] next = at.clone();
        int go = 8;
        for (int i = 3; i < 6; i++) {
            if (at[i] != ABOVE) {
                go = Math.min(go, at[i] % 8 == 0 ? 1 : 8 - at[i] % 8);
            }
        }
        for (int i = 3; i < 6; i++) {
            if (at[i] != ABOVE) {
                next[i] = at[i] + go;
            }
        }
        return sample(next);
    }

    /** What is behind the whole parts becomes 2, 4 and 6 8ths in order, so samples are alike. */
    private int[] sample(int[] at) {
        int[] next = at.clone();
        for (int i = 3; i < 6; i++) {
            if (at[i] == ABOVE || at[i] > 8 * greatest[i - 2]) {
                next[i] = ABOVE;
            }
        }
        int[] even = next.clone();
        for (int i = 3; i < 6; i++) {
            if (next[i] == ABOVE || next[i] % 8 == 0) {
                continue;
            }
            Set<Integer> behind = new HashSet<>();
            for (int j = 3; j < 6; j++) {
                if (next[j] != ABOVE && next[j] % 8 != 0 && next[j] % 8 <= next[i] % 8) {
                    behind.add(next[j] % 8);
                }
            }
            even[i] = next[i] / 8 * 8 + 2 * behind.size();
        }
        return even;
    }
}
