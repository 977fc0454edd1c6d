import java.util.ArrayList;
import java.util.List;

/**
 * What a refused call leaves as it was, and a question too: an object that was called so tells the
 * same story, now and later, as one that was not.
 */
public final class RefusedTest extends Checks {
    private static final int[] SOME = {LEAST, -1, 0, 1, 2, 3, 8, 9, 10, 2000, 2001, MOST};

    private interface Asked {
        Object of(Counted x);
    }

    private interface State {
        void of(Counted x);
    }

    private record Named(String name, Asked call) {
        /** A boolean, a number, or the name of what was thrown. */
        String answer(Counted x) {
            try {
                return String.valueOf(call.of(x));
            } catch (RuntimeException e) {
                return e.getClass().getSimpleName();
            }
        }
    }

    private static void noTasks(Counted x) {
        x.tick(3);
    }

    private static void notReady(Counted x) {
        put(x, 1, 10, 10, 30, 2);
        put(x, 2, 14, 14, 20);
        x.tick(3);
    }

    private static void admitted(Counted x) {
        put(x, 1, 10, 10, 30, 2);
        put(x, 2, 14, 14, 20, 2, 3);
        put(x, 3, 40, 60, 10, 4, 3);
    }

    private static void eightSegments(Counted x) {
        put(x, 1, 100, 10, 30, 2);
        put(x, 8, 100, 90, 20, 1, 2, 3, 4, 5, 6, 7, 8);
    }

    private static void stretched(Counted x) {
        admitted(x);
        x.stretch();
    }

    private static void late(Counted x) {
        put(x, 3, 10, 4, 9, 2);
        put(x, 2, 50, 5, 3, 1, 4);
    }

    private static void tooLong(Counted x) {
        put(x, 1, 10, 80, 30, 4, 6);
        put(x, 3, 50, 400, 20, 2);
    }

    private static void underWay(Counted x) {
        admitted(x);
        x.arrive(3);
        x.tick(1);
        x.arrive(2);
        x.tick(3);
        x.arrive(1);
        x.tick(8);
    }

    private static void betweenSegments(Counted x) {
        admitted(x);
        x.arrive(3);
        x.tick(4);
        x.arrive(1);
    }

    private static void nineOpen(Counted x) {
        put(x, 1, 1, 8, 9, 20);
        put(x, 2, 5, 5, 5, 1);
        for (int k = 0; k < 9; k++) {
            x.arrive(1);
            x.tick(1);
        }
    }

    private static void allDone(Counted x) {
        admitted(x);
        x.arrive(3);
        x.arrive(2);
        x.tick(50);
    }

    private static void addCalls(List<Named> calls, int a) {
        calls.add(new Named("task(" + a + ", 20, 20, 50)", x -> x.task(a, 20, 20, 50)));
        calls.add(new Named("task(4, " + a + ", 1, 50)", x -> x.task(4, a, 1, 50)));
        calls.add(new Named("task(4, 1, " + a + ", 50)", x -> x.task(4, 1, a, 50)));
        calls.add(new Named("task(4, 20, 20, " + a + ")", x -> x.task(4, 20, 20, a)));
        calls.add(new Named("segment(" + a + ", 5)", x -> x.segment(a, 5)));
        calls.add(new Named("segment(" + a + ", 0)", x -> x.segment(a, 0)));
        calls.add(new Named("segment(" + a + ", 101)", x -> x.segment(a, 101)));
        calls.add(new Named("segment(1, " + a + ")", x -> x.segment(1, a)));
        calls.add(new Named("about(" + a + ", 5)", x -> x.about(a, 5)));
        calls.add(new Named("about(1, " + a + ")", x -> x.about(1, a)));
        calls.add(new Named("response(" + a + ")", x -> x.response(a)));
        calls.add(new Named("job(" + a + ", 0)", x -> x.job(a, 0)));
        calls.add(new Named("job(1, " + a + ")", x -> x.job(1, a)));
        calls.add(new Named("tolerance(" + a + ")", x -> x.tolerance(a)));
        calls.add(new Named("scenario(" + a + ", 0, 0)", x -> x.scenario(a, 0, 0)));
        calls.add(new Named("scenario(1, " + a + ", 0)", x -> x.scenario(1, a, 0)));
        calls.add(new Named("scenario(1, 0, " + a + ")", x -> x.scenario(1, 0, a)));
        calls.add(new Named("arrive(" + a + ")", x -> x.arrive(a)));
        calls.add(new Named("tick(" + a + ")", x -> x.tick(a)));
        calls.add(new Named("ended(" + a + ", 0)", x -> x.ended(a, 0)));
        calls.add(new Named("ended(1, " + a + ")", x -> x.ended(1, a)));
        calls.add(new Named("seen(" + a + ", 5)", x -> x.seen(a, 5)));
        calls.add(new Named("seen(1, " + a + ")", x -> x.seen(1, a)));
    }

    private static List<Named> allCalls() {
        List<Named> calls = new ArrayList<>();
        calls.add(new Named("admit()", x -> x.admit()));
        calls.add(new Named("stretch()", x -> x.stretch()));
        calls.add(new Named("now()", x -> x.now()));
        for (int a : SOME) {
            addCalls(calls, a);
        }
        return calls;
    }

    /** A call may change something only if it is one that does, and it was not refused. */
    private static boolean changes(Named asked, String answer) {
        boolean refused = answer.equals("false") || answer.endsWith("Exception");
        String name = asked.name();
        boolean changer = name.startsWith("task") || name.startsWith("segment") || name.startsWith("arrive")
            || name.startsWith("tick") || name.startsWith("stretch");
        return changer && !refused;
    }

    private static void tell(StringBuilder story, Counted x, Asked call) {
        story.append(new Named("", call).answer(x)).append(' ');
    }

    private static void tellTasks(StringBuilder story, Counted x) {
        for (int id = 1; id <= 8; id++) {
            int i = id;
            for (int what = 0; what <= 5; what++) {
                int w = what;
                tell(story, x, y -> y.about(i, w));
            }
            int segments = Math.max(0, x.about(i, 3));
            for (int k = 0; k < segments; k++) {
                int w = 10 + k;
                tell(story, x, y -> y.about(i, w));
            }
        }
    }

    private static void tellFindings(StringBuilder story, Counted x) {
        tell(story, x, y -> y.admit());
        for (int id = 1; id <= 8; id++) {
            int i = id;
            tell(story, x, y -> y.response(i));
            tell(story, x, y -> y.tolerance(i));
            tell(story, x, y -> y.job(i, 0));
            tell(story, x, y -> y.job(i, 1));
            tell(story, x, y -> y.scenario(i, 0, 1));
            tell(story, x, y -> y.scenario(i, 1, 0));
            tell(story, x, y -> y.scenario(i, 3, 1));
        }
    }

    private static void tellJobs(StringBuilder story, Counted x) {
        tell(story, x, y -> y.now());
        for (int id = 1; id <= 8; id++) {
            int i = id;
            for (int what = 0; what <= 5; what++) {
                int w = what;
                tell(story, x, y -> y.seen(i, w));
            }
            tell(story, x, y -> y.ended(i, 0));
            tell(story, x, y -> y.ended(i, 1));
        }
    }

    private static String story(Counted x) {
        StringBuilder story = new StringBuilder();
        tellJobs(story, x);
        tellTasks(story, x);
        tellFindings(story, x);
        tell(story, x, y -> y.tick(1));
        for (int id = 1; id <= 8; id++) {
            int i = id;
            tell(story, x, y -> y.arrive(i));
        }
        tell(story, x, y -> y.tick(6));
        tellJobs(story, x);
        tell(story, x, y -> y.tick(2000));
        tellJobs(story, x);
        tell(story, x, y -> y.task(7, 9, 9, 77));
        tell(story, x, y -> y.segment(1, 7));
        return story.toString();
    }

    private static void changesNothing(String name, State state) {
        Counted untouched = new Counted();
        state.of(untouched);
        String due = story(untouched);
        int compared = 0;
        for (Named asked : allCalls()) {
            Counted x = new Counted();
            state.of(x);
            String answer = asked.answer(x);
            if (!changes(asked, answer)) {
                due(name + ": the story after " + asked.name() + " = " + answer, story(x), due);
                compared++;
            }
        }
        due(name + ": enough was compared", compared > 200, true);
    }

    public static void main(String[] args) {
        sentence("nothing is changed then");
        changesNothing("no tasks", RefusedTest::noTasks);
        changesNothing("not READY", RefusedTest::notReady);
        changesNothing("admitted", RefusedTest::admitted);
        changesNothing("8 SEGMENTS", RefusedTest::eightSegments);
        changesNothing("stretched", RefusedTest::stretched);
        changesNothing("late", RefusedTest::late);
        changesNothing("TOO LONG", RefusedTest::tooLong);
        changesNothing("a SEGMENT under way", RefusedTest::underWay);
        changesNothing("between SEGMENTS", RefusedTest::betweenSegments);
        changesNothing("9 jobs not done", RefusedTest::nineOpen);
        changesNothing("all done", RefusedTest::allDone);
        finish("what is refused changes nothing");
    }
}
