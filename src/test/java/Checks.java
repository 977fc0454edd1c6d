/** What the tests with hand-found answers share: they extend it. */
abstract class Checks {
    static final int NONE = SegmentKernel.NONE;
    static final int LEAST = Integer.MIN_VALUE;
    static final int MOST = Integer.MAX_VALUE;
    static final Class<?> NO_TASK = IndexOutOfBoundsException.class;
    static final Class<?> NOT_READY = IllegalStateException.class;
    static final Class<?> TOO_LONG = ArithmeticException.class;
    private static int wrong;
    private static String sentence = "";

    interface Call {
        void make();
    }

    /** The sentence of the document that the answers from here on are due by. */
    static void sentence(String words) {
        sentence = words + ": ";
    }

    private static void fault(String text) {
        wrong++;
        System.out.println(sentence + text);
    }

    static void due(String what, int got, int want) {
        if (got != want) {
            fault(what + " answered " + got + ", due is " + want);
        }
    }

    static void due(String what, boolean got, boolean want) {
        if (got != want) {
            fault(what + " answered " + got + ", due is " + want);
        }
    }

    static void due(String what, String got, String want) {
        if (!got.equals(want)) {
            fault(what + " answered " + got + ", due is " + want);
        }
    }

    static void dueThrow(String what, Class<?> want, Call call) {
        Class<?> got = null;
        try {
            call.make();
        } catch (RuntimeException e) {
            got = e.getClass();
        }
        if (got != want) {
            fault(what + " threw " + got + ", due is " + want);
        }
    }

    /** A task of which the test knows that it is taken. */
    static void put(Counted x, int id, int distance, int deadline, int priority, int... segments) {
        due("task " + id, x.task(id, distance, deadline, priority), true);
        for (int length : segments) {
            due("segment of " + id, x.segment(id, length), true);
        }
    }

    static void dueSegments(String what, Counted x, int id, int... segments) {
        due(what + ": how many", x.about(id, 3), segments.length);
        for (int k = 0; k < segments.length; k++) {
            due(what + ": segment " + k, x.about(id, 10 + k), segments[k]);
        }
        due(what + ": behind the last", x.about(id, 10 + segments.length), NONE);
    }

    /** All jobs of a task with its blocking, and none behind them. */
    static void dueJobs(String what, Counted x, int id, int... responses) {
        for (int k = 0; k < responses.length; k++) {
            due(what + ": job " + k, x.job(id, k), responses[k]);
        }
        due(what + ": behind the last job", x.job(id, responses.length), NONE);
    }

    static void dueScenario(String what, Counted x, int id, int... timesAndTasks) {
        for (int k = 0; k < timesAndTasks.length; k++) {
            due(what + ": item " + k, x.scenario(id, k / 2, k % 2), timesAndTasks[k]);
        }
        due(what + ": time behind", x.scenario(id, timesAndTasks.length / 2, 0), NONE);
        due(what + ": task behind", x.scenario(id, timesAndTasks.length / 2, 1), NONE);
    }

    static void dueSeen(String what, Counted x, int id, int... items) {
        for (int k = 0; k < items.length; k++) {
            due(what + ": seen(" + id + ", " + k + ")", x.seen(id, k), items[k]);
        }
    }

    static void arrives(Counted x, int id) {
        due("arrive(" + id + ")", x.arrive(id), true);
    }

    static void finish(String good) {
        System.out.println(wrong == 0 ? good : wrong + " answers are not as due");
        if (wrong != 0) {
            System.exit(1);
        }
    }
}
