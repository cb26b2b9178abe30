import java.util.ArrayList;
import java.util.List;
import java.util.function.ToIntFunction;

/**
 * For a net that is asked about more often than the 512 calls that an object is made for: when
 * they are used up, a new object is told the same, and asked on.
 */
final class Asked {
    private static final int MOST_CALLS = 512;

    private final List<ToIntFunction<ClockZones>> told = new ArrayList<>();
    private ClockZones x = new ClockZones();
    private int calls;

    int tell(ToIntFunction<ClockZones> call) {
        int answer = ask(call);
        told.add(call);
        return answer;
    }

    int ask(ToIntFunction<ClockZones> call) {
        if (calls >= MOST_CALLS) {
            x = new ClockZones();
            for (ToIntFunction<ClockZones> again : told) {
                again.applyAsInt(x);
            }
            calls = told.size();
        }
        calls++;
        return call.applyAsInt(x);
    }
}
