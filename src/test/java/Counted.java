/** A SegmentKernel that a test asks no more than the document promises: 512 calls. */
final class Counted {
    static final int MOST_CALLS = 512;
    private final SegmentKernel kernel = new SegmentKernel();
    private int calls;

    int calls() {
        return calls;
    }

    private SegmentKernel called() {
        calls++;
        if (calls > MOST_CALLS) {
            throw new AssertionError("the test calls one object more than " + MOST_CALLS + " times");
        }
        return kernel;
    }

    boolean task(int id, int distance, int deadline, int priority) {
        return called().task(id, distance, deadline, priority);
    }

    boolean segment(int id, int length) {
        return called().segment(id, length);
    }

    void clear() {
        called().clear();
    }

    void reset() {
        called().reset();
    }

    int about(int id, int what) {
        return called().about(id, what);
    }

    int admit() {
        return called().admit();
    }

    int response(int id) {
        return called().response(id);
    }

    int job(int id, int k) {
        return called().job(id, k);
    }

    int tolerance(int id) {
        return called().tolerance(id);
    }

    int stretch() {
        return called().stretch();
    }

    int scenario(int id, int i, int what) {
        return called().scenario(id, i, what);
    }

    boolean arrive(int id) {
        return called().arrive(id);
    }

    int tick(int n) {
        return called().tick(n);
    }

    int now() {
        return called().now();
    }

    int ended(int id, int k) {
        return called().ended(id, k);
    }

    int seen(int id, int what) {
        return called().seen(id, what);
    }
}
