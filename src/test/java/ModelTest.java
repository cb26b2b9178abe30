import java.util.Random;

/** Random runs of calls, right and wrong ones, each answer compared with that of PlainModel. */
public final class ModelTest {
    private static final int RUNS = 3000;
    private static final int MOST_CALLS = 512;

    private final Random random;
    private final ClockZones x = new ClockZones();
    private final PlainModel model = new PlainModel();
    private final int run;
    /** Small numbers make tests that are met; great ones the edges of what may be told. */
    private final int mostNumber;
    private final int mostPlace;
    private final int oddOutOf;
    private int calls;

    private ModelTest(int run) {
        this.run = run;
        random = new Random(run);
        mostNumber = new int[] {1, 3, 6, 20, 1000}[run % 5];
        mostPlace = 1 + random.nextInt(5);
        oddOutOf = run % 3 == 0 ? 15 : 200;
    }

    public static void main(String[] args) {
        for (int run = 0; run < RUNS && !Due.isLost(); run++) {
            new ModelTest(run).go();
        }
        Due.done();
    }

    private void go() {
        tellANet();
        // To wipe and tell anew takes the most calls at once, some 40.
        while (calls < MOST_CALLS - 60 && !Due.isLost()) {
            call();
        }
        while (calls < MOST_CALLS - 2) {
            ask();
        }
        while (calls < MOST_CALLS) {
            due("digest()", x.digest(), model.digest());
        }
    }

    private void due(String call, long got, long want) {
        calls++;
        Due.be("run " + run + ": " + call, got, want);
    }

    /** A number of least to most, and now and then one beside them. */
    private int any(int least, int most) {
        if (random.nextInt(oddOutOf) == 0) {
            return switch (random.nextInt(6)) {
                case 0 -> least - 1;
                case 1 -> most + 1;
                case 2 -> Integer.MIN_VALUE;
                case 3 -> Integer.MAX_VALUE;
                case 4 -> -random.nextInt(200);
                default -> random.nextInt(2000000);
            };
        }
        return least + random.nextInt(Math.max(1, most - least + 1));
    }

    private void tellANet() {
        for (int i = random.nextInt(14); i >= 0; i--) {
            edge();
        }
        for (int i = random.nextInt(16); i > 0; i--) {
            guard();
        }
        for (int i = random.nextInt(7); i > 0; i--) {
            limit();
        }
        explore();
    }

    private void call() {
        int choice = random.nextInt(1000);
        if (choice < 4) edge();
        else if (choice < 8) guard();
        else if (choice < 12) limit();
        else if (choice < 13) wipeAndTell();
        else if (choice < 45) explore();
        else if (choice < 550) ask();
        else walk();
    }

    private void edge() {
        int channel = random.nextInt(2) == 0 ? 0 : any(-2, 2) * (random.nextInt(9) == 0 ? 2 : 1);
        int resets = random.nextInt(30) == 0 ? any(0, 20) : 2 * any(0, 7);
        int m = any(0, 2), from = any(0, random.nextInt(3)), to = any(0, mostPlace);
        if (random.nextInt(3) == 0) {
            int other = from;
            from = to;
            to = other;
        }
        due("edge(" + m + ", " + from + ", " + to + ", " + channel + ", " + resets + ")",
            x.edge(m, from, to, channel, resets), model.edge(m, from, to, channel, resets));
    }

    private void guard() {
        int e = any(0, model.count(0) - 1), clock = any(1, 3), sort = any(0, 4), c = any(0, mostNumber);
        due("guard(" + e + ", " + clock + ", " + sort + ", " + c + ")",
            x.guard(e, clock, sort, c), model.guard(e, clock, sort, c));
    }

    private void limit() {
        int m = any(0, 2), p = any(0, mostPlace), clock = any(1, 3), sort = any(0, 1);
        int c = any(random.nextInt(20) == 0 ? 0 : 1, mostNumber);
        due("limit(" + m + ", " + p + ", " + clock + ", " + sort + ", " + c + ")",
            x.limit(m, p, clock, sort, c), model.limit(m, p, clock, sort, c));
    }

    private void wipeAndTell() {
        due("wipe()", x.wipe(), model.wipe());
        tellANet();
    }

    private void explore() {
        int n = random.nextInt(3) == 0 ? any(1, 120) : 120;
        due("explore(" + n + ")", x.explore(n), model.explore(n));
    }

    private int anyState() {
        return any(0, model.count(3) - 1);
    }

    private void ask() {
        int i = anyState(), steps = model.state(Math.max(0, i), 6);
        int k = any(0, Math.max(0, steps - 1));
        int a = any(-1, mostPlace), b = any(-1, mostPlace), c = any(-1, mostPlace);
        switch (random.nextInt(11)) {
            case 0 -> due("state", x.state(i, k % 8), model.state(i, k % 8));
            case 1, 2 -> {
                int y = any(0, 3), z = any(0, 3);
                due("bound(" + i + ", " + y + ", " + z + ")", x.bound(i, y, z), model.bound(i, y, z));
            }
            case 3 -> due("reach(" + a + ", " + b + ", " + c + ")", x.reach(a, b, c), model.reach(a, b, c));
            case 4 -> has(i);
            case 5 -> due("way(" + i + ", " + k + ")", x.way(i, k, a & 1), model.way(i, k, a & 1));
            case 6, 7 -> due("moment(" + i + ", " + k + ")", x.moment(i, k), model.moment(i, k));
            case 8 -> due("greatest(" + a + ")", x.greatest(a), model.greatest(a));
            case 9 -> {
                int e = any(0, model.count(0) - 1), what = any(0, 5);
                due("about(" + e + ", " + what + ")", x.about(e, what), model.about(e, what));
            }
            default -> {
                int what = any(0, 6);
                due("count(" + what + ")", x.count(what), model.count(what));
                if (random.nextInt(8) == 0) due("digest()", x.digest(), model.digest());
            }
        }
    }

    private void has(int i) {
        int base = any(0, 64 * mostNumber + 64);
        int[] a = new int[3];
        for (int clock = 0; clock < 3; clock++) {
            int more = random.nextInt(3) * 64 * random.nextInt(mostNumber + 1) + random.nextInt(3) - 1;
            a[clock] = random.nextInt(2) == 0 ? base : base + more;
        }
        due("has(" + i + ", " + a[0] + ", " + a[1] + ", " + a[2] + ")",
            x.has(i, a[0], a[1], a[2]), model.has(i, a[0], a[1], a[2]));
    }

    private void walk() {
        switch (random.nextInt(12)) {
            case 0 -> {
                if (random.nextInt(4) == 0) due("begin()", x.begin(), model.begin());
                else due("run", x.run(8), model.run(8));
            }
            case 1, 2, 3 -> {
                int n = random.nextInt(40) == 0 ? any(1, 64000)
                    : random.nextInt(2) == 0 ? 64 * any(1, 2) + any(-1, 1) : any(1, 64);
                due("pass(" + n + ")", x.pass(n), model.pass(n));
            }
            case 4 -> due("here()", x.here(), model.here());
            case 5 -> {
                int what = any(0, 8);
                due("run(" + what + ")", x.run(what), model.run(what));
            }
            default -> {
                int e = any(0, model.count(0) - 1);
                int f = model.about(e, 3) == 0 && random.nextInt(9) != 0 ? -1 : any(-1, model.count(0) - 1);
                due("move(" + e + ", " + f + ")", x.move(e, f), model.move(e, f));
            }
        }
        if (model.run(0) == ClockZones.STATE && random.nextInt(6) == 0) {
            due("begin()", x.begin(), model.begin());
        }
    }
}
