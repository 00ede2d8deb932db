import java.util.ArrayList;
import java.util.List;
import java.util.function.ToIntFunction;

/**
 * A mill that may be asked as often as a test likes, though an object is good for 512 calls: when they are
 * used up, a new object is told all that was told, and answers from then on.
 */
final class LongMill {
    static final int CALLS = 512;

    private final List<ToIntFunction<WindowMill>> told = new ArrayList<>();
    private WindowMill mill = new WindowMill();
    private int calls;
    private int objects = 1;

    /** Makes a call that may change the mill. */
    int tell(ToIntFunction<WindowMill> call) {
        int answer = call.applyAsInt(ask(1));
        told.add(call);
        return answer;
    }

    /** A mill as told, for this many calls that change nothing. */
    WindowMill ask(int more) {
        if (calls + more > CALLS) {
            renew();
        }
        calls += more;
        return mill;
    }

    /** Of the object that answers now. */
    int calls() {
        return calls;
    }

    int objects() {
        return objects;
    }

    private void renew() {
        mill = new WindowMill();
        objects++;
        for (ToIntFunction<WindowMill> call : told) {
            call.applyAsInt(mill);
        }
        calls = told.size();
    }
}
