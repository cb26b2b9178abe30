import java.util.function.Supplier;

/** Objects that several tests begin with. */
final class Nets {
    private static final int NONE = ClockZones.NONE;

    interface With {
        void go(String name, Supplier<ClockZones> maker);
    }

    private Nets() {
    }

    /** For what is asked of an object at any time. */
    static void each(With with) {
        with.go("new: ", ClockZones::new);
        with.go("told: ", Nets::told);
        with.go("explored: ", Nets::explored);
        with.go("walked: ", Nets::walked);
        with.go("explored and walked: ", Nets::exploredAndWalked);
        with.go("full: ", Nets::full);
    }

    /** Four edges (0 and 3 alone, 1 calls 2), two guards, two limits; neither states nor a run. */
    static ClockZones told() {
        ClockZones x = new ClockZones();
        x.edge(0, 0, 1, 0, 2);
        x.edge(1, 0, 1, 1, 4);
        x.edge(2, 0, 1, -1, 0);
        x.edge(0, 1, 0, 0, 8);
        x.guard(0, 1, 3, 1);
        x.guard(2, 2, 0, 9);
        x.limit(0, 0, 1, 1, 5);
        x.limit(2, 1, 3, 0, 40);
        return x;
    }

    static ClockZones explored() {
        ClockZones x = told();
        x.explore(120);
        return x;
    }

    /** Machine 0 has moved to place 1, 71 64ths have gone by, 7 of them behind the move. */
    private static ClockZones walk(ClockZones x) {
        x.begin();
        x.pass(64);
        x.move(0, NONE);
        x.pass(7);
        return x;
    }

    static ClockZones walked() {
        return walk(told());
    }

    static ClockZones exploredAndWalked() {
        return walk(explored());
    }

    /** All that there may be: 20 edges, 40 guards, 36 limits, 100 moves, explored 40 times. */
    static ClockZones full() {
        ClockZones x = new ClockZones();
        for (int e = 0; e < 20; e++) {
            x.edge(e % 2, 0, 0, e % 2 == 0 ? 4 : -4, 0);
            x.guard(e, 1, 3, 0);
            x.guard(e, 2, 1, 1000);
        }
        for (int place = 0; place < 18; place++) {
            x.limit(place / 6, place % 6, 3, 1, 1000);
            x.limit(place / 6, place % 6, 2, 0, 1000);
        }
        for (int i = 0; i < 40; i++) {
            x.explore(120);
        }
        x.begin();
        return x;
    }

    /** Machines that walk freely through their first places: one state for each choice of them. */
    static ClockZones walkers(int a, int b, int c) {
        ClockZones x = new ClockZones();
        int[] places = {a, b, c};
        for (int m = 0; m < 3; m++) {
            for (int p = 1; p < places[m]; p++) {
                x.edge(m, p - 1, p, 0, 0);
            }
        }
        return x;
    }

    /** A chain of 41 states: clock 1 is set back each time that it is 1, clock 2 never. */
    static ClockZones chain() {
        ClockZones x = new ClockZones();
        x.edge(0, 0, 0, 0, 2);
        x.guard(0, 1, 2, 1);
        x.limit(0, 0, 1, 1, 1);
        x.limit(2, 5, 2, 1, 1000);
        return x;
    }
}
