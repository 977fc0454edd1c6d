import java.util.ArrayList;
import java.util.List;
import java.util.function.Function;

/**
 * A SegmentKernel for tests that ask more than the 512 calls that one object is promised for: when
 * these are used up, a new one is brought to the same state by the calls that could have changed it.
 */
final class Replayed {
    private final List<Function<SegmentKernel, ?>> history = new ArrayList<>();
    private SegmentKernel kernel = new SegmentKernel();
    private int calls;

    /** Another one in the same state. */
    Replayed twin() {
        Replayed twin = new Replayed();
        twin.history.addAll(history);
        twin.replay();
        return twin;
    }

    /** The calls that an object made now has left for questions. */
    int callsToSpare() {
        return Counted.MOST_CALLS - history.size();
    }

    private void replay() {
        kernel = new SegmentKernel();
        for (Function<SegmentKernel, ?> call : history) {
            try {
                call.apply(kernel);
            } catch (RuntimeException e) {
                // It was refused the first time too, and that was looked at then.
                continue;
            }
        }
        calls = history.size();
    }

    private <A> A ask(Function<SegmentKernel, A> call) {
        if (calls >= Counted.MOST_CALLS) {
            replay();
        }
        calls++;
        if (calls > Counted.MOST_CALLS) {
            throw new AssertionError("the test changes one object more than " + Counted.MOST_CALLS + " times");
        }
        return call.apply(kernel);
    }

    private <A> A change(Function<SegmentKernel, A> call) {
        A answer = null;
        try {
            answer = ask(call);
        } finally {
            history.add(call);
        }
        return answer;
    }

    boolean task(int id, int distance, int deadline, int priority) {
        return change(k -> k.task(id, distance, deadline, priority));
    }

    boolean segment(int id, int length) {
        return change(k -> k.segment(id, length));
    }

    void clear() {
        change(k -> {
            k.clear();
            return true;
        });
    }

    void reset() {
        change(k -> {
            k.reset();
            return true;
        });
    }

    int stretch() {
        return change(SegmentKernel::stretch);
    }

    boolean arrive(int id) {
        return change(k -> k.arrive(id));
    }

    int tick(int n) {
        return change(k -> k.tick(n));
    }

    int about(int id, int what) {
        return ask(k -> k.about(id, what));
    }

    int admit() {
        return ask(SegmentKernel::admit);
    }

    int response(int id) {
        return ask(k -> k.response(id));
    }

    int job(int id, int j) {
        return ask(k -> k.job(id, j));
    }

    int tolerance(int id) {
        return ask(k -> k.tolerance(id));
    }

    int scenario(int id, int i, int what) {
        return ask(k -> k.scenario(id, i, what));
    }

    int now() {
        return ask(SegmentKernel::now);
    }

    int ended(int id, int j) {
        return ask(k -> k.ended(id, j));
    }

    int seen(int id, int what) {
        return ask(k -> k.seen(id, what));
    }
}
