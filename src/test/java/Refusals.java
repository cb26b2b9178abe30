import java.util.Arrays;
import java.util.function.Supplier;

/** Calls with all choices of arguments at once: which refusal comes first, and what it changes. */
final class Refusals {
    static final int LEAST = Integer.MIN_VALUE;
    static final int MOST = Integer.MAX_VALUE;
    /** What a rule answers for arguments that are not refused. */
    static final int ALLOWED = 1;

    interface Call {
        int of(ClockZones x, int[] a);
    }

    interface Rule {
        int due(int[] a);
    }

    private Refusals() {
    }

    /** Least and most, the ones just beyond, and the farthest ints. */
    static int[] around(int least, int most) {
        return new int[] {least, most, least - 1, most + 1, LEAST, MOST};
    }

    /** Least and most and the ones just beyond: for calls with many arguments. */
    static int[] near(int least, int most) {
        return new int[] {least, most, least - 1, most + 1};
    }

    static boolean in(int number, int least, int most) {
        return number >= least && number <= most;
    }

    static void all(String name, Supplier<ClockZones> maker, Call call, Rule rule, int[]... choices) {
        int all = 1;
        for (int[] choice : choices) {
            all *= choice.length;
        }
        for (int n = 0; n < all; n++) {
            int[] a = new int[choices.length];
            int rest = n;
            for (int i = 0; i < a.length; i++) {
                a[i] = choices[i][rest % choices[i].length];
                rest /= choices[i].length;
            }
            one(name + Arrays.toString(a), maker.get(), call, a, rule.due(a));
        }
    }

    private static void one(String name, ClockZones x, Call call, int[] a, int due) {
        if (due == ALLOWED) {
            int got = call.of(x, a);
            Due.hold(name + " is allowed and answers " + got, !isRefusal(got));
            return;
        }
        long[] before = picture(x);
        Due.be(name, call.of(x, a), due);
        long[] after = picture(x);
        for (int i = 0; i < before.length; i++) {
            Due.be(name + " changes picture " + i, after[i], before[i]);
        }
    }

    private static boolean isRefusal(int answer) {
        return in(answer, ClockZones.FULL, ClockZones.UNKNOWN) || answer == 100001 || answer == 100002;
    }

    /** What is told of the whole object: the digest, and what is not in it. */
    static long[] picture(ClockZones x) {
        int last = x.count(3) - 1;
        return new long[] {x.digest(), x.count(0), x.count(1), x.count(2), x.count(3), x.count(4),
            x.count(5), x.count(6), x.greatest(1), x.greatest(2), x.greatest(3), x.here(),
            x.reach(-1, -1, -1), x.way(last, 0, 0), x.moment(last, 0), x.run(7), x.run(8)};
    }
}
