/** Each sentence of the document's section "Terms" that names a boundary case; answers found by hand. */
public final class TermsTest extends Checks {
    private static boolean takes(int id, int distance, int deadline, int priority) {
        return new Counted().task(id, distance, deadline, priority);
    }

    private static void ids() {
        sentence("an ID (1 .. 8)");
        for (int id = 1; id <= 8; id++) {
            due("ID " + id, takes(id, 10, 10, 1), true);
        }
        for (int id : new int[] {LEAST, -8, -1, 0, 9, 10, 257, MOST}) {
            due("ID " + id, takes(id, 10, 10, 1), false);
        }
        Counted x = new Counted();
        for (int id = 8; id >= 1; id--) {
            put(x, id, 10 + id, 20 + id, 30 + id, id);
        }
        for (int id = 1; id <= 8; id++) {
            due("all eight: DISTANCE", x.about(id, 0), 10 + id);
            due("all eight: DEADLINE", x.about(id, 1), 20 + id);
            due("all eight: PRIORITY", x.about(id, 2), 30 + id);
        }
        due("a ninth", x.task(9, 10, 10, 1), false);
    }

    private static void allEight() {
        sentence("A SET is all tasks");
        Counted x = new Counted();
        for (int id = 1; id <= 8; id++) {
            put(x, id, 100, 100, 10 * id, 1, 2);
        }
        due("admitted", x.admit(), 1);
        due("the lowest", x.response(1), 24);
        due("the HIGHEST", x.response(8), 4);
        dueScenario("the lowest", x, 1, 0, 8, 0, 7, 0, 6, 0, 5, 0, 4, 0, 3, 0, 2, 0, 1);
        dueScenario("the HIGHEST", x, 8, 0, 7, 2, 8);
        due("8 SEGMENTS fewer", x.stretch(), 8);
        for (int id = 1; id <= 8; id++) {
            arrives(x, id);
        }
        for (int id = 8; id >= 1; id--) {
            due("in their order", x.tick(3), id);
        }
        due("all are done", x.tick(1), 0);
        due("the lowest was done last", x.ended(1, 0), 24);
        x.reset();
        due("none is left", x.tick(1), 0);
        dueSeen("reset", x, 1, 0, 0, 0, 0, 0, 0);
        x.clear();
        due("no task is left", x.task(9, 10, 10, 1) || x.arrive(1) || x.arrive(8), false);
    }

    private static void distanceOfOne() {
        sentence("a DISTANCE of 1");
        Counted x = new Counted();
        put(x, 1, 1, 8, 9, 1);
        dueJobs("no tick is free", x, 1, 1);
        due("it bears nothing", x.tolerance(1), 0);
        dueScenario("it alone", x, 1, 0, 1);
        put(x, 2, 1000, 8000, 1, 1);
        due("for itself as before", x.response(1), 1);
        due("nobody else has room", x.admit(), -102);
    }

    private static void distances() {
        sentence("a DISTANCE (1 .. 1000 ticks)");
        for (int distance : new int[] {1, 2, 999, 1000}) {
            due("DISTANCE " + distance, takes(1, distance, 1, 1), true);
        }
        for (int distance : new int[] {LEAST, -1000, -1, 0, 1001, 1 << 29, 1 << 30, MOST}) {
            due("DISTANCE " + distance, takes(1, distance, 1, 1), false);
        }
    }

    private static void distanceBetweenArrivals() {
        sentence("from one arrival to the next one at least");
        Counted x = new Counted();
        put(x, 1, 1000, 1, 1, 1);
        arrives(x, 1);
        x.tick(999);
        due("999 later", x.arrive(1), false);
        x.tick(1);
        due("1000 later", x.arrive(1), true);
        x.tick(1500);
        due("1500 later", x.arrive(1), true);
    }

    private static void deadlines() {
        sentence("a DEADLINE (1 .. 8 * DISTANCE)");
        int[][] taken = {{1, 1}, {1, 8}, {7, 1}, {7, 56}, {1000, 1}, {1000, 8000}};
        for (int[] pair : taken) {
            due("DEADLINE " + pair[1] + " of " + pair[0], takes(1, pair[0], pair[1], 1), true);
        }
        int[][] refused = {{1, 0}, {1, 9}, {7, 0}, {7, 57}, {1000, -1}, {1000, 8001}, {1000, LEAST}, {1000, MOST}};
        for (int[] pair : refused) {
            due("DEADLINE " + pair[1] + " of " + pair[0], takes(1, pair[0], pair[1], 1), false);
        }
    }

    private static void priorities() {
        sentence("a PRIORITY (0 .. 99, no two alike; the greater one is HIGHER)");
        for (int priority : new int[] {0, 1, 98, 99}) {
            due("PRIORITY " + priority, takes(1, 10, 10, priority), true);
        }
        for (int priority : new int[] {LEAST, -1, 100, MOST}) {
            due("PRIORITY " + priority, takes(1, 10, 10, priority), false);
        }
        Counted x = new Counted();
        put(x, 1, 10, 10, 0, 2);
        put(x, 2, 10, 10, 99, 3);
        due("0 once more", x.task(3, 10, 10, 0), false);
        due("99 once more", x.task(3, 10, 10, 99), false);
        put(x, 3, 10, 10, 98, 4);
        due("BLOCKING of 99", x.about(2, 5), 3);
        due("BLOCKING of 98", x.about(3, 5), 1);
        due("BLOCKING of 0", x.about(1, 5), 0);
        arrives(x, 1);
        arrives(x, 2);
        arrives(x, 3);
        due("99 runs first", x.tick(3), 2);
        due("then 98", x.tick(4), 3);
        due("then 0", x.tick(2), 1);
    }

    private static void segmentLengths() {
        sentence("SEGMENTS of 1 to 100 ticks");
        Counted x = new Counted();
        put(x, 1, 10, 10, 1);
        for (int length : new int[] {LEAST, -1, 0, 101, 102, MOST}) {
            due("length " + length, x.segment(1, length), false);
        }
        dueSegments("none taken", x, 1);
        due("length 1", x.segment(1, 1), true);
        due("length 100", x.segment(1, 100), true);
        dueSegments("two taken", x, 1, 1, 100);
    }

    private static void segmentCounts() {
        sentence("1 to 8 SEGMENTS");
        Counted x = new Counted();
        put(x, 1, 10, 10, 1, 1, 2, 3, 4, 5, 6, 7);
        due("the eighth", x.segment(1, 8), true);
        due("a ninth", x.segment(1, 1), false);
        dueSegments("eight", x, 1, 1, 2, 3, 4, 5, 6, 7, 8);
        put(x, 2, 10, 10, 2);
        due("another task has its own eight", x.segment(2, 9), true);
    }

    private static void workAndLast() {
        sentence("Its WORK is the sum of these, its LAST the last one");
        Counted x = new Counted();
        put(x, 1, 1000, 1000, 1);
        due("WORK without SEGMENTS", x.about(1, 4), 0);
        for (int k = 1; k <= 8; k++) {
            x.segment(1, 100);
            due("WORK of " + k, x.about(1, 4), 100 * k);
        }
        Counted shortLast = new Counted();
        put(shortLast, 1, 5, 5, 9, 2);
        put(shortLast, 2, 20, 20, 1, 3, 1);
        due("LAST begins at 7", shortLast.response(2), 8);
        Counted longLast = new Counted();
        put(longLast, 1, 5, 5, 9, 2);
        put(longLast, 2, 20, 20, 1, 1, 3);
        due("LAST begins at 3", longLast.response(2), 6);
    }

    private static void dueReady(String what, Counted x, boolean ready) {
        Class<?> thrown = ready ? null : NOT_READY;
        dueThrow(what + ": admit", thrown, x::admit);
        dueThrow(what + ": response", thrown, () -> x.response(1));
        dueThrow(what + ": job", thrown, () -> x.job(1, 0));
        dueThrow(what + ": tolerance", thrown, () -> x.tolerance(1));
        dueThrow(what + ": scenario", thrown, () -> x.scenario(1, 0, 0));
        dueThrow(what + ": stretch", thrown, x::stretch);
        due(what + ": arrive", x.arrive(1), ready);
        x.reset();
    }

    private static void ready() {
        sentence("A SET is READY if it has a task, and each task a SEGMENT");
        Counted x = new Counted();
        dueThrow("no task: admit", NOT_READY, x::admit);
        dueThrow("no task: stretch", NOT_READY, x::stretch);
        put(x, 1, 100, 100, 5);
        dueReady("a task without one", x, false);
        x.segment(1, 1);
        dueReady("a task with one", x, true);
        put(x, 2, 100, 100, 9);
        dueReady("a HIGHER task without one", x, false);
        put(x, 3, 100, 100, 1);
        x.segment(2, 1);
        dueReady("a LOWER task without one", x, false);
        x.segment(3, 1);
        dueReady("each with one", x, true);
        x.clear();
        dueThrow("cleared: admit", NOT_READY, x::admit);
    }

    private static void blocking() {
        sentence("BLOCKING: the longest SEGMENT of all LOWER tasks, less 1; 0 if there is none");
        Counted x = new Counted();
        put(x, 1, 1000, 8000, 50, 70);
        due("no LOWER task", x.about(1, 5), 0);
        put(x, 2, 1000, 8000, 90, 90);
        due("a HIGHER task alone", x.about(1, 5), 0);
        put(x, 3, 1000, 8000, 20);
        due("a LOWER task without SEGMENTS", x.about(1, 5), 0);
        x.segment(3, 1);
        due("a SEGMENT of 1", x.about(1, 5), 0);
        x.segment(3, 2);
        due("a SEGMENT of 2", x.about(1, 5), 1);
        put(x, 4, 1000, 8000, 10, 3, 8, 5);
        due("the longest of the lowest", x.about(1, 5), 7);
        due("of the LOWER one alone", x.about(3, 5), 7);
        due("own SEGMENTS do not count", x.about(4, 5), 0);
        due("the HIGHEST", x.about(2, 5), 69);
        x.segment(3, 100);
        due("the longest that there is", x.about(1, 5), 99);
    }

    private static void firstTicks() {
        sentence("The first B ticks go to something else");
        for (int length : new int[] {1, 2, 3, 100}) {
            Counted x = new Counted();
            put(x, 1, 1000, 1000, 9, 5);
            put(x, 2, 1000, 1000, 1, length);
            dueJobs("B is " + (length - 1), x, 1, 5 + length - 1);
        }
        Counted x = new Counted();
        put(x, 1, 2, 16, 9, 1);
        put(x, 2, 1000, 1000, 1, 9);
        dueJobs("jobs arrive during these too", x, 1, 9, 8, 7, 6, 5, 4, 3, 2);
    }

    private static void runsAtOnce() {
        sentence("A job that arrives at t can run in the tick from t to t + 1");
        Counted x = new Counted();
        put(x, 1, 4, 4, 9, 2);
        put(x, 2, 20, 20, 1, 2, 1);
        due("HIGHER at 4, LAST would begin at 4", x.response(2), 7);
        arrives(x, 1);
        arrives(x, 2);
        due("the first SEGMENT", x.tick(4), 2);
        arrives(x, 1);
        due("the HIGHER one at once", x.tick(1), 1);
        Counted y = new Counted();
        put(y, 1, 5, 5, 9, 2);
        put(y, 2, 20, 20, 1, 2, 1);
        due("HIGHER at 5, LAST begins at 4", y.response(2), 5);
    }

    private static void runsToItsEnd() {
        sentence("a SEGMENT runs to its end");
        Counted x = new Counted();
        put(x, 1, 5, 5, 9, 2);
        put(x, 2, 20, 20, 1, 2, 5);
        due("HIGHER at 5, LAST from 4 to 9", x.response(2), 9);
        arrives(x, 1);
        arrives(x, 2);
        x.tick(5);
        arrives(x, 1);
        due("goes on", x.tick(4), 2);
        due("done", x.ended(2, 0), 9);
        due("then the HIGHER one", x.tick(2), 1);
        due("that waited for it", x.ended(1, 1), 6);
    }

    private static void oldestFirst() {
        sentence("the oldest job with work left of the HIGHEST task that has one begins its next SEGMENT");
        Counted x = new Counted();
        put(x, 1, 5, 40, 1, 2, 2);
        put(x, 2, 40, 40, 9, 4);
        dueJobs("with the HIGHER one", x, 1, 8, 7, 6, 5);
        arrives(x, 1);
        arrives(x, 2);
        x.tick(5);
        arrives(x, 1);
        x.tick(1);
        due("between two SEGMENTS of the oldest", x.seen(1, 1), 0);
        x.tick(2);
        due("the oldest is done first", x.ended(1, 0), 8);
        due("the other not yet", x.ended(1, 1), NONE);
        x.tick(4);
        due("the other", x.ended(1, 1), 7);
    }

    private static void busyEnd() {
        sentence("The BUSY time ends at the least t > 0 at which all jobs that arrived before t are done"
            + " (not those that arrive at t)");
        Counted x = new Counted();
        put(x, 1, 10, 10, 5, 10);
        dueJobs("the next one arrives at the end", x, 1, 10);
        Counted y = new Counted();
        put(y, 1, 5, 5, 9, 2);
        put(y, 2, 5, 40, 5, 2);
        put(y, 3, 100, 100, 1, 2);
        dueJobs("the end at 5", y, 2, 5);
        y.segment(3, 3);
        dueJobs("the end at 10", y, 2, 6, 5);
    }

    private static void put800(Counted x, int work) {
        put(x, 1, 800, 6400, 9, 100, 100, 100, 100, 100, work);
        put(x, 2, 772, 6176, 8, 100, 100);
    }

    private static void tooLong() {
        sentence("TOO LONG, if the BUSY time has more than 20000 ticks");
        Counted x = new Counted();
        put800(x, 92);
        due("20000 ticks", x.job(2, 25) != NONE, true);
        due("20000 ticks: as many jobs", x.job(2, 26), NONE);
        due("20000 ticks: admit", x.admit(), 1);
        Counted y = new Counted();
        put(y, 1, 870, 6960, 9, 100, 100, 100, 100, 100, 100, 12);
        put(y, 2, 801, 6408, 8, 100, 100, 37);
        dueThrow("20001 ticks", TOO_LONG, () -> y.response(2));
        due("20001 ticks: the HIGHER one is not", y.response(1), 711);
        due("20001 ticks: admit", y.admit(), -102);
        Counted z = new Counted();
        put800(z, 93);
        dueThrow("a tick more of work", TOO_LONG, () -> z.response(2));
    }

    /** 999 of 1000 ticks are work, so each tick of blocking makes the busy time 999 longer. */
    private static Counted nearlyFull(int lowest) {
        Counted x = new Counted();
        put(x, 1, 1000, 1000, 9, 100, 100, 100, 100, 100, 100, 100, 100);
        put(x, 2, 1000, 8000, 8, 100, 99);
        put(x, 3, 1000, 8000, 7, lowest);
        return x;
    }

    private static void tooLongWithBlocking() {
        sentence("The set is TOO LONG for x with B");
        Counted x = nearlyFull(21);
        due("with 20: 20000 ticks", x.response(2), 1019);
        due("with 20: the last job", x.job(2, 19), 1000);
        due("with 20: behind it", x.job(2, 20), NONE);
        Counted y = nearlyFull(22);
        dueThrow("with 21: response", TOO_LONG, () -> y.response(2));
        dueThrow("with 21: job", TOO_LONG, () -> y.job(2, 0));
        dueThrow("with 21: scenario", TOO_LONG, () -> y.scenario(2, 0, 0));
        due("with 21: tolerance", y.tolerance(2), 20);
        due("with 21: for the HIGHEST it is not", y.response(1), 899);
    }

    private static Counted tied() {
        Counted x = new Counted();
        put(x, 1, 7, 7, 9, 2);
        put(x, 2, 10, 20, 5, 3, 4);
        put(x, 3, 1000, 1000, 1, 2);
        return x;
    }

    private static void critical() {
        sentence("the first job that has it is CRITICAL");
        Counted x = tied();
        dueJobs("two have it", x, 2, 10, 11, 10, 11, 10, 9, 10);
        due("WORST", x.response(2), 11);
        dueScenario("up to the first of them", x, 2, 0, 3, 1, 1, 1, 2, 8, 1, 11, 2, 15, 1);
        Counted y = new Counted();
        put(y, 1, 3, 3, 9, 1);
        put(y, 2, 5, 5, 5, 3);
        put(y, 3, 1000, 1000, 1, 2);
        dueJobs("job 0 and job 1 have it", y, 2, 5, 5, 4);
        dueScenario("up to job 0", y, 2, 0, 3, 1, 1, 1, 2, 4, 1);
    }

    private static void bears() {
        sentence("x BEARS a blocking B, if no RESPONSE with it is above its DEADLINE");
        for (int deadline = 2; deadline <= 6; deadline++) {
            Counted x = new Counted();
            put(x, 1, 10, deadline, 9, 2);
            due("DEADLINE " + deadline + ", WORK 2", x.tolerance(1), deadline - 2);
        }
        Counted late = new Counted();
        put(late, 1, 7, 7, 9, 2);
        put(late, 2, 10, 10, 5, 3, 4);
        due("job 0 is within with 1, job 1 is not", late.tolerance(2), 0);
        Counted later = new Counted();
        put(later, 1, 7, 7, 9, 2);
        put(later, 2, 10, 11, 5, 3, 4);
        due("11 with 1", later.tolerance(2), 1);
    }

    private static void tolerances() {
        sentence("TOLERANCE: the greatest B, up to its DEADLINE; NONE if it does not bear 0");
        Counted x = new Counted();
        put(x, 1, 10, 10, 9, 1);
        due("all but its own tick", x.tolerance(1), 9);
        x.segment(1, 9);
        due("nothing but 0", x.tolerance(1), 0);
        x.segment(1, 1);
        due("not even 0: a RESPONSE above, TOO LONG", x.tolerance(1), NONE);
        Counted y = new Counted();
        put(y, 1, 10, 9, 9, 10);
        due("not even 0: a RESPONSE above", y.tolerance(1), NONE);
        y.clear();
        put(y, 1, 10, 80, 9, 10);
        due("TOO LONG with 1, within the DEADLINE", y.tolerance(1), 0);
        y.clear();
        put(y, 1, 1000, 8000, 9, 1);
        due("the greatest of all", y.tolerance(1), 7999);
        put(y, 2, 1000, 8000, 8, 100);
        due("what is LOWER does not count", y.tolerance(1), 7999);
        due("what is HIGHER does", y.tolerance(2), 7892);
    }

    private static void stretchesHighest() {
        sentence("the LIMIT of a task: its WORK if there is none");
        Counted x = new Counted();
        put(x, 2, 1000, 1000, 5, 100, 100, 100, 100, 100, 100, 100, 100);
        due("seven fewer", x.stretch(), 7);
        dueSegments("one that is longer than 100", x, 2, 800);
        due("WORK stays", x.about(2, 4), 800);
        due("nothing is left to do", x.stretch(), 0);
        due("it had 8, it has 1", x.segment(2, 100), true);
        dueSegments("with one more", x, 2, 800, 100);
        x.clear();
        put(x, 2, 1000, 1000, 5, 7);
        due("one stays one", x.stretch(), 0);
        dueSegments("one", x, 2, 7);
    }

    /** Task 1 has a tolerance of 4, so the limit of task 2 is 5. */
    private static void dueStretched(int fewer, int[] before, int... after) {
        Counted x = new Counted();
        put(x, 1, 10, 6, 9, 2);
        put(x, 2, 100, 100, 1, before);
        due("fewer", x.stretch(), fewer);
        dueSegments("task 2", x, 2, after);
        dueSegments("task 1", x, 1, 2);
    }

    private static void stretchesToLimit() {
        sentence("its LAST becomes the lesser of WORK and LIMIT");
        dueStretched(1, new int[] {2, 2}, 4);
        dueStretched(1, new int[] {2, 3}, 5);
        dueStretched(0, new int[] {3, 3}, 1, 5);
        dueStretched(0, new int[] {1, 5}, 1, 5);
        dueStretched(0, new int[] {5}, 5);
        Counted x = new Counted();
        put(x, 1, 10, 2, 9, 2);
        put(x, 2, 100, 100, 1, 1, 1, 1);
        due("a LIMIT of 1", x.stretch(), 0);
        dueSegments("a LIMIT of 1", x, 2, 1, 1, 1);
    }

    private static void stretchesBeyondHundred() {
        sentence("LAST becomes the longest that it can be, longer than segment() takes too");
        Counted x = new Counted();
        put(x, 1, 1000, 151, 9, 1);
        put(x, 2, 1000, 1000, 5, 100, 100, 100);
        due("the LIMIT is 151", x.stretch(), 0);
        dueSegments("151 of 300", x, 2, 100, 49, 151);
        due("BLOCKING", x.about(1, 5), 150);
        due("WORST is the DEADLINE", x.response(1), 151);
        dueScenario("behind the work ahead", x, 1, 0, 2, 150, 1);
        due("one more SEGMENT", x.segment(2, 1), true);
        due("as many", x.stretch(), 0);
        dueSegments("the 151 is cut in its turn", x, 2, 100, 49, 1, 151);
        arrives(x, 2);
        x.tick(151);
        due("the kernel runs it whole", x.seen(2, 5), 150);
    }

    private static void cutsWhereLastBegins() {
        sentence("what lies ahead of that stays as it was cut, as far as it is left"
            + " (the SEGMENT in which the new LAST begins is cut there)");
        dueStretched(1, new int[] {2, 2, 2, 2}, 2, 1, 5);
        dueStretched(1, new int[] {3, 3, 2}, 3, 5);
        dueStretched(0, new int[] {1, 4, 3}, 1, 2, 5);
        dueStretched(0, new int[] {4, 3, 5}, 4, 3, 5);
        dueStretched(4, new int[] {1, 1, 1, 1, 1, 1, 1, 1}, 1, 1, 1, 5);
        dueStretched(1, new int[] {5, 4, 1}, 5, 5);
    }

    private static void leastTolerance() {
        sentence("1 more than the least TOLERANCE of the tasks HIGHER than it");
        Counted x = new Counted();
        put(x, 1, 20, 4, 9, 2);
        put(x, 2, 20, 20, 8, 1);
        put(x, 3, 100, 100, 7, 1, 1, 1, 1, 1);
        due("the HIGHEST bears the least", x.stretch(), 2);
        dueSegments("the HIGHEST bears the least", x, 3, 1, 1, 3);
        x.clear();
        put(x, 1, 20, 20, 9, 2);
        put(x, 2, 20, 6, 8, 1);
        put(x, 3, 100, 100, 7, 1, 1, 1, 1, 1);
        due("the next one bears the least", x.stretch(), 3);
        dueSegments("the next one bears the least", x, 3, 1, 4);
    }

    private static void stretchedAlready() {
        sentence("task by task, the HIGHEST first: as they are then, stretched already");
        Counted x = new Counted();
        put(x, 8, 10, 10, 30, 2);
        put(x, 5, 14, 14, 20, 2, 3);
        put(x, 1, 40, 60, 10, 4, 3);
        due("before", x.tolerance(5), 5);
        due("fewer in all", x.stretch(), 2);
        dueSegments("the second", x, 5, 5);
        due("after", x.tolerance(5), 7);
        dueSegments("the third, by that TOLERANCE", x, 1, 7);
        Counted full = new Counted();
        for (int id = 1; id <= 8; id++) {
            put(full, id, 1000, 1000, id, 1, 1, 1, 1, 1, 1, 1, 1);
        }
        due("64 SEGMENTS become 8", full.stretch(), 56);
    }

    private static Counted blocked(int... lower) {
        Counted x = new Counted();
        put(x, 5, 50, 50, 9, 1);
        put(x, 2, 50, 50, 4, lower);
        return x;
    }

    private static void scenarioWithBlocking() {
        sentence("THE SCENARIO: if its BLOCKING is above 0; the START is 1 more than the work ahead of its first"
            + " SEGMENT as long as that");
        dueScenario("no LOWER task", blocked(1), 2, 0, 5, 0, 2);
        dueScenario("BLOCKING 0", blocked(1, 1), 5, 0, 5);
        dueScenario("BLOCKING 1, nothing ahead", blocked(2), 5, 0, 2, 1, 5);
        dueScenario("one ahead", blocked(1, 2), 5, 0, 2, 2, 5);
        dueScenario("the first of two", blocked(2, 4, 1, 4), 5, 0, 2, 3, 5);
        dueScenario("the last of eight", blocked(1, 1, 1, 1, 1, 1, 1, 2), 5, 0, 2, 8, 5);
    }

    private static void scenarioOfHighestLower() {
        sentence("a job of the HIGHEST task of those LOWER tasks that have a SEGMENT as long as the longest of all"
            + " LOWER ones");
        Counted x = new Counted();
        put(x, 1, 20, 20, 9, 1);
        put(x, 2, 50, 50, 8, 3);
        put(x, 4, 50, 50, 7, 2, 4);
        put(x, 3, 50, 50, 6, 4);
        put(x, 5, 50, 50, 5, 1);
        dueScenario("not the next one, which is shorter", x, 1, 0, 4, 3, 1);
        dueScenario("of the third", x, 4, 0, 3, 1, 1, 1, 2, 1, 4);
        dueScenario("of the fourth: 1 does not block", x, 3, 0, 1, 0, 2, 0, 4, 0, 3);
    }

    private static void scenarioEnd() {
        sentence("as long as they arrive before the CRITICAL job of x would be done");
        Counted x = new Counted();
        put(x, 1, 5, 5, 9, 2);
        put(x, 2, 100, 100, 1, 2, 1);
        dueScenario("done at 5, the next at 5", x, 2, 0, 1, 0, 2);
        Counted y = new Counted();
        put(y, 1, 5, 5, 9, 2);
        put(y, 2, 100, 100, 1, 2, 2);
        dueScenario("done at 6, the next at 5", y, 2, 0, 1, 0, 2, 5, 1);
        sentence("those of x only up to the CRITICAL one");
        Counted z = new Counted();
        put(z, 1, 3, 3, 9, 1);
        put(z, 2, 2, 3, 5, 1);
        put(z, 3, 1000, 1000, 1, 2);
        dueJobs("the first is CRITICAL", z, 2, 3, 3, 2);
        dueScenario("not the one at 2", z, 2, 0, 3, 1, 1, 1, 2);
    }

    private static void scenarioOrder() {
        sentence("They are told by time, of one time the HIGHER task first");
        Counted x = new Counted();
        put(x, 1, 8, 12, 1, 1, 1, 1);
        put(x, 3, 4, 4, 5, 1);
        put(x, 8, 4, 4, 3, 1);
        due("done at 7", x.response(1), 7);
        dueScenario("by PRIORITY, not by ID", x, 1, 0, 3, 0, 8, 0, 1, 4, 3, 4, 8);
        x.clear();
        put(x, 1, 3, 3, 9, 1);
        put(x, 2, 4, 4, 8, 1);
        put(x, 3, 100, 100, 7, 1, 1, 1);
        dueScenario("3 and 4 are two times", x, 3, 0, 1, 0, 2, 0, 3, 3, 1, 4, 2, 6, 1);
    }

    private static void kernelAtFirst() {
        sentence("THE KERNEL has a clock (0 at first)");
        Counted x = new Counted();
        due("now", x.now(), 0);
        due("a tick without tasks", x.tick(1), 0);
        due("the clock grows by 1", x.now(), 1);
    }

    private static void nineJobs() {
        sentence("a task has at most 9 jobs that are not done");
        Counted x = new Counted();
        put(x, 1, 1, 8, 5, 20);
        put(x, 2, 1, 8, 4, 1);
        for (int k = 0; k < 9; k++) {
            arrives(x, 1);
            x.tick(1);
        }
        due("a tenth", x.arrive(1), false);
        for (int k = 0; k < 9; k++) {
            arrives(x, 2);
            x.tick(1);
        }
        due("each task has its own nine", x.arrive(2), false);
        due("18 ticks later", x.arrive(1), false);
        x.tick(1);
        due("a tick before the first is done", x.arrive(1), false);
        x.tick(1);
        due("the first is done", x.arrive(1), true);
        x.tick(1);
        due("nine again", x.arrive(1), false);
        due("arrived", x.seen(1, 0), 10);
        x.tick(2000);
        for (int k = 0; k < 9; k++) {
            due("job " + k, x.ended(1, k), 20 * (k + 1) - k);
        }
        due("the tenth came at 20", x.ended(1, 9), 180);
    }

    private static Counted lowAndHigh() {
        Counted x = new Counted();
        put(x, 1, 100, 100, 1, 2, 2);
        put(x, 2, 3, 3, 9, 1);
        return x;
    }

    private static void interrupted() {
        sentence("If a job that has begun, and is not done, is not the one that begins a SEGMENT, though its"
            + " SEGMENT was the one that ended last, it was INTERRUPTED once more");
        Counted x = lowAndHigh();
        arrives(x, 1);
        x.tick(2);
        arrives(x, 2);
        due("not before the other begins", x.seen(1, 3), 0);
        x.tick(1);
        due("the other arrived at the end of its SEGMENT", x.seen(1, 3), 1);
        x.tick(1);
        due("it goes on", x.seen(1, 3), 1);
        x.tick(1);
        due("done", x.seen(1, 1), 1);
        due("done: as often", x.seen(1, 3), 1);
        due("the other never", x.seen(2, 3), 0);
    }

    private static void notInterrupted() {
        Counted waits = lowAndHigh();
        arrives(waits, 1);
        arrives(waits, 2);
        waits.tick(5);
        due("it had not begun", waits.seen(1, 3), 0);
        Counted goesOn = lowAndHigh();
        arrives(goesOn, 1);
        goesOn.tick(3);
        arrives(goesOn, 2);
        goesOn.tick(2);
        due("it was done when the other began", goesOn.seen(1, 3), 0);
        due("both are done", goesOn.seen(1, 1) + goesOn.seen(2, 1), 2);
        Counted alone = lowAndHigh();
        arrives(alone, 1);
        alone.tick(4);
        alone.tick(1);
        due("nobody else was there", alone.seen(1, 3), 0);
    }

    private static void interruptedByMany() {
        Counted x = new Counted();
        put(x, 1, 10, 80, 1, 1, 1, 1);
        put(x, 2, 100, 100, 5, 1, 1);
        put(x, 3, 2, 2, 9, 1);
        arrives(x, 1);
        x.tick(1);
        arrives(x, 2);
        x.tick(1);
        arrives(x, 3);
        x.tick(1);
        dueSeen("one that interrupts is interrupted", x, 2, 1, 0, 0, 1);
        dueSeen("the lowest once", x, 1, 1, 0, 0, 1);
        x.tick(2);
        dueSeen("going on counts nothing", x, 1, 1, 0, 0, 1);
        arrives(x, 3);
        x.tick(1);
        dueSeen("once more", x, 1, 1, 0, 0, 2);
        x.tick(4);
        dueSeen("done", x, 1, 1, 1, 7, 2);
        arrives(x, 1);
        x.tick(1);
        arrives(x, 3);
        x.tick(4);
        dueSeen("its next job too", x, 1, 2, 2, 7, 3);
    }

    private static void notedJobs() {
        sentence("the first 200 of each are noted");
        Counted x = new Counted();
        put(x, 3, 1, 5, 1, 1);
        put(x, 4, 1000, 1000, 9, 5);
        for (int k = 0; k < 199; k++) {
            arrives(x, 3);
            x.tick(1);
        }
        due("job 199 has not arrived", x.ended(3, 199), NONE);
        arrives(x, 3);
        due("job 199 is not done", x.ended(3, 199), NONE);
        x.tick(1);
        due("job 199", x.ended(3, 199), 1);
        arrives(x, 3);
        arrives(x, 4);
        x.tick(6);
        due("job 200 is not noted", x.ended(3, 200), NONE);
        due("job 0 stays noted", x.ended(3, 0), 1);
        due("job 1 stays noted", x.ended(3, 1), 1);
        due("another task's job 0", x.ended(4, 0), 5);
        dueSeen("job 200 counts", x, 3, 201, 201, 6, 0, 1, 0);
    }

    private static void numberedFromZero() {
        sentence("Jobs of a task are numbered from 0 on");
        Counted x = new Counted();
        put(x, 1, 5, 5, 9, 1);
        put(x, 2, 5, 5, 1, 2);
        arrives(x, 1);
        arrives(x, 2);
        x.tick(5);
        arrives(x, 2);
        x.tick(5);
        due("job -1", x.ended(2, -1), NONE);
        due("job 0", x.ended(2, 0), 3);
        due("job 1", x.ended(2, 1), 2);
        due("job 2", x.ended(2, 2), NONE);
        due("of the other: job 0", x.ended(1, 0), 1);
        due("of the other: job 1", x.ended(1, 1), NONE);
    }

    private static void exceptionsInOrder() {
        sentence("Of several exceptions that a call may throw the first one told is thrown");
        Counted empty = new Counted();
        dueNoTask(empty, 1);
        Counted x = new Counted();
        put(x, 1, 1, 8, 9, 1);
        put(x, 2, 10, 80, 5, 2);
        dueNoTask(x, 3);
        dueThrow("TOO LONG: response", TOO_LONG, () -> x.response(1));
        dueThrow("TOO LONG: job", TOO_LONG, () -> x.job(1, -1));
        dueThrow("TOO LONG: scenario", TOO_LONG, () -> x.scenario(1, -1, 7));
        put(x, 3, 10, 80, 1);
        dueNoTask(x, 4);
        dueNoTask(x, 0);
        dueNoTask(x, 9);
        dueThrow("not READY and TOO LONG: response", NOT_READY, () -> x.response(1));
        dueThrow("not READY and TOO LONG: job", NOT_READY, () -> x.job(1, 0));
        dueThrow("not READY and TOO LONG: scenario", NOT_READY, () -> x.scenario(1, 0, 0));
        dueThrow("not READY and TOO LONG: tolerance", NOT_READY, () -> x.tolerance(1));
    }

    private static void dueNoTask(Counted x, int id) {
        dueThrow("none such: response", NO_TASK, () -> x.response(id));
        dueThrow("none such: job", NO_TASK, () -> x.job(id, -1));
        dueThrow("none such: tolerance", NO_TASK, () -> x.tolerance(id));
        dueThrow("none such: scenario", NO_TASK, () -> x.scenario(id, -1, 7));
    }

    private static void manyCalls() {
        sentence("An object is used for at most 512 calls after it has been made");
        Counted x = new Counted();
        put(x, 1, 1, 1, 1, 1);
        for (int k = 0; k < 254; k++) {
            arrives(x, 1);
            due("tick", x.tick(1), 1);
        }
        due("511th", x.seen(1, 1), 254);
        due("512th", x.ended(1, 199), 1);
        due("calls", x.calls(), Counted.MOST_CALLS);
        Counted y = new Counted();
        for (int k = 0; k < Counted.MOST_CALLS - 1; k++) {
            y.tick(2000);
        }
        due("the clock at the 512th", y.now(), 1022000);
    }

    public static void main(String[] args) {
        ids();
        allEight();
        distances();
        distanceOfOne();
        distanceBetweenArrivals();
        deadlines();
        priorities();
        segmentLengths();
        segmentCounts();
        workAndLast();
        ready();
        blocking();
        firstTicks();
        runsAtOnce();
        runsToItsEnd();
        oldestFirst();
        busyEnd();
        tooLong();
        tooLongWithBlocking();
        critical();
        bears();
        tolerances();
        stretchesHighest();
        stretchesToLimit();
        stretchesBeyondHundred();
        cutsWhereLastBegins();
        leastTolerance();
        stretchedAlready();
        scenarioWithBlocking();
        scenarioOfHighestLower();
        scenarioEnd();
        scenarioOrder();
        kernelAtFirst();
        nineJobs();
        interrupted();
        notInterrupted();
        interruptedByMany();
        notedJobs();
        numberedFromZero();
        exceptionsInOrder();
        manyCalls();
        finish("all terms hold at their boundaries");
    }
}
