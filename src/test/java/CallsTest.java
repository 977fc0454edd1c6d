/** Each sentence of the promises 1 to 17 that names a boundary case; answers found by hand. */
public final class CallsTest extends Checks {
    private static final int[] NO_IDS = {LEAST, -1, 0, 2, 4, 8, 9, MOST};

    /** Tasks 1, 3 and 5; all keep their deadlines. */
    private static Counted threeTasks() {
        Counted x = new Counted();
        put(x, 1, 10, 10, 30, 2);
        put(x, 3, 14, 14, 20, 2, 3);
        put(x, 5, 40, 60, 10, 4, 3);
        return x;
    }

    /** The highest task leaves no tick free, so with any blocking its busy time never ends. */
    private static Counted fullSet() {
        Counted x = new Counted();
        put(x, 1, 10, 80, 30, 4, 6);
        put(x, 3, 50, 400, 20, 2);
        return x;
    }

    private static void newObject() {
        sentence("1: makes an object in the state that the terms give");
        Counted x = new Counted();
        due("now", x.now(), 0);
        for (int id = 1; id <= 8; id++) {
            due("about " + id, x.about(id, 0), NONE);
            due("segment " + id, x.segment(id, 1), false);
            due("arrive " + id, x.arrive(id), false);
            due("ended " + id, x.ended(id, 0), NONE);
            due("seen " + id, x.seen(id, 0), NONE);
        }
        dueThrow("admit", NOT_READY, x::admit);
        dueThrow("stretch", NOT_READY, x::stretch);
        dueThrow("response", NO_TASK, () -> x.response(1));
        due("tick", x.tick(2000), 0);
        Counted y = new Counted();
        due("another one: now", y.now(), 0);
        put(x, 1, 5, 5, 5, 1);
        due("another one: about", y.about(1, 0), NONE);
    }

    private static void taskWithSameId() {
        sentence("2: false if there is one with this ID or PRIORITY");
        Counted x = threeTasks();
        due("the same ID", x.task(3, 20, 20, 50), false);
        due("the same PRIORITY", x.task(4, 20, 20, 20), false);
        due("the same of two tasks", x.task(3, 20, 20, 30), false);
        due("as it stands", x.task(3, 14, 14, 20), false);
        dueSegments("the old one stays", x, 3, 2, 3);
        due("the old DISTANCE stays", x.about(3, 0), 14);
        due("the old PRIORITY stays", x.about(3, 2), 20);
        due("no task 4", x.about(4, 0), NONE);
        due("PRIORITY 50 is free", x.task(4, 20, 20, 50), true);
    }

    private static void taskNotAsTold() {
        sentence("2: false if something is not as told");
        Counted x = new Counted();
        int[][] refused = {{0, 10, 10, 1}, {9, 10, 10, 1}, {1, 0, 10, 1}, {1, 1001, 10, 1}, {1, 10, 0, 1},
            {1, 10, 81, 1}, {1, 10, 10, -1}, {1, 10, 10, 100}};
        for (int[] t : refused) {
            due("task " + t[0] + ", " + t[1] + ", " + t[2] + ", " + t[3], x.task(t[0], t[1], t[2], t[3]), false);
        }
        due("nothing came of it", x.about(1, 0), NONE);
        due("its ID and PRIORITY are free", x.task(1, 10, 80, 1), true);
    }

    private static void changesAfterArrival() {
        sentence("2, 3: false if a job has arrived");
        Counted x = threeTasks();
        due("refused arrival", x.arrive(4), false);
        due("a refused arrival does not count: task", x.task(4, 20, 20, 50), true);
        due("a refused arrival does not count: segment", x.segment(4, 1), true);
        x.tick(3);
        due("ticks do not count", x.segment(4, 1), true);
        arrives(x, 4);
        due("it waits: task", x.task(6, 20, 20, 60), false);
        due("it waits: segment", x.segment(4, 1), false);
        due("it waits: segment of another", x.segment(1, 1), false);
        x.tick(2000);
        due("it is done", x.seen(4, 1), 1);
        due("it is done: task", x.task(6, 20, 20, 60), false);
        due("it is done: segment", x.segment(1, 1), false);
        due("nothing came of it", x.about(6, 0), NONE);
        dueSegments("nothing came of it", x, 4, 1, 1);
        x.reset();
        due("forgotten by reset: task", x.task(6, 20, 20, 60), true);
        due("forgotten by reset: segment", x.segment(6, 1), true);
        arrives(x, 6);
        x.clear();
        due("forgotten by clear: task", x.task(6, 20, 20, 60), true);
        due("forgotten by clear: segment", x.segment(6, 1), true);
    }

    private static void segmentRefused() {
        sentence("3: false if there is no such task, it has 8, the length is not as told");
        Counted x = threeTasks();
        for (int id : NO_IDS) {
            due("segment of " + id, x.segment(id, 1), false);
        }
        for (int k = 0; k < 7; k++) {
            due("behind its others", x.segment(1, 3 + k), true);
        }
        due("it has 8", x.segment(1, 1), false);
        dueSegments("in order", x, 1, 2, 3, 4, 5, 6, 7, 8, 9);
        due("WORK", x.about(1, 4), 44);
        due("the length is 0", x.segment(3, 0), false);
        due("the length is 101", x.segment(3, 101), false);
        due("others as they were", x.about(3, 4), 5);
    }

    private static void segmentAfterStretch() {
        sentence("3: a task gets a SEGMENT behind its others");
        Counted x = new Counted();
        put(x, 1, 1000, 8000, 5, 100, 100, 100, 100, 100, 100, 100, 100);
        due("it has 8", x.segment(1, 1), false);
        x.stretch();
        for (int k = 0; k < 7; k++) {
            due("stretched: room for number " + (k + 2), x.segment(1, 1 + k), true);
        }
        due("it has 8 again", x.segment(1, 1), false);
        dueSegments("behind the stretched one", x, 1, 800, 1, 2, 3, 4, 5, 6, 7);
        due("WORK", x.about(1, 4), 828);
        due("its worst", x.response(1), 828);
    }

    /** A run that leaves something in all that can be seen of the jobs of task 5. */
    private static Counted inMidRun() {
        Counted x = new Counted();
        put(x, 1, 10, 10, 30, 2);
        put(x, 3, 14, 14, 20, 2, 3);
        put(x, 5, 20, 8, 10, 4, 3);
        arrives(x, 5);
        x.tick(1);
        arrives(x, 3);
        x.tick(3);
        arrives(x, 1);
        x.tick(16);
        arrives(x, 5);
        x.tick(1);
        dueSeen("before", x, 5, 2, 1, 14, 1, 1, 3);
        return x;
    }

    private static void clear() {
        sentence("4: All is forgotten: tasks, jobs, the clock is 0");
        Counted x = inMidRun();
        x.clear();
        due("now", x.now(), 0);
        for (int id = 1; id <= 8; id++) {
            due("about " + id, x.about(id, 3), NONE);
            due("seen " + id, x.seen(id, 5), NONE);
            due("ended " + id, x.ended(id, 0), NONE);
            due("arrive " + id, x.arrive(id), false);
        }
        due("nothing runs", x.tick(1), 0);
        dueThrow("admit", NOT_READY, x::admit);
        put(x, 5, 20, 8, 10);
        dueSegments("the same ID, without the old SEGMENTS", x, 5);
        due("the old WORK is forgotten", x.about(5, 4), 0);
        dueSeen("the same ID, without the old jobs", x, 5, 0, 0, 0, 0, 0, 0);
        due("a first SEGMENT", x.segment(5, 3), true);
        arrives(x, 5);
        due("begins with its first SEGMENT", x.tick(3), 5);
        due("and is done", x.ended(5, 0), 3);
        due("only the new BLOCKING", x.about(5, 5), 0);
        x.clear();
        x.clear();
        due("twice", x.now(), 0);
    }

    private static void clearBetweenSegments() {
        Counted x = threeTasks();
        arrives(x, 5);
        x.tick(4);
        x.clear();
        put(x, 5, 40, 60, 10, 4, 3);
        put(x, 1, 10, 10, 30, 2);
        arrives(x, 1);
        x.tick(2);
        due("the one forgotten between its SEGMENTS was not interrupted", x.seen(5, 3), 0);
        arrives(x, 5);
        x.tick(1);
        due("it begins anew", x.seen(5, 5), 3);
    }

    private static void reset() {
        sentence("5: Jobs are forgotten, the clock is 0; the tasks stay");
        Counted x = inMidRun();
        x.reset();
        due("now", x.now(), 0);
        for (int id : new int[] {1, 3, 5}) {
            dueSeen("reset", x, id, 0, 0, 0, 0, 0, 0);
            due("ended " + id, x.ended(id, 0), NONE);
        }
        dueSegments("tasks stay", x, 1, 2);
        dueSegments("tasks stay", x, 3, 2, 3);
        dueSegments("tasks stay", x, 5, 4, 3);
        due("DISTANCE stays", x.about(5, 0), 20);
        due("nothing runs", x.tick(1), 0);
        arrives(x, 5);
        arrives(x, 3);
        arrives(x, 1);
        x.tick(14);
        due("all begin with their first SEGMENT: 1", x.ended(1, 0), 2);
        due("all begin with their first SEGMENT: 3", x.ended(3, 0), 7);
        due("all begin with their first SEGMENT: 5", x.ended(5, 0), 14);
        due("no interruption is left over", x.seen(5, 3) + x.seen(3, 3) + x.seen(1, 3), 0);
        Counted y = new Counted();
        y.tick(7);
        y.reset();
        due("without tasks", y.now(), 0);
    }

    private static void resetBetweenSegments() {
        Counted x = threeTasks();
        arrives(x, 5);
        x.tick(4);
        x.reset();
        arrives(x, 1);
        x.tick(2);
        due("the one forgotten between its SEGMENTS was not interrupted", x.seen(5, 3), 0);
        arrives(x, 5);
        x.tick(1);
        due("it begins anew", x.seen(5, 5), 3);
    }

    private static void about() {
        sentence("6: NONE if there is none such, or for another what");
        Counted x = threeTasks();
        for (int id : NO_IDS) {
            for (int what : new int[] {0, 1, 2, 3, 4, 5, 10}) {
                due("about(" + id + ", " + what + ")", x.about(id, what), NONE);
            }
        }
        for (int what : new int[] {LEAST, -10, -1, 6, 7, 8, 9, 12, 13, 17, 18, 19, 100, MOST}) {
            due("about(5, " + what + ")", x.about(5, what), NONE);
        }
        int[] items = {40, 60, 10, 2, 7, 0};
        for (int what = 0; what < items.length; what++) {
            due("about(5, " + what + ")", x.about(5, what), items[what]);
        }
        sentence("6: 10 + k: its SEGMENT k, from 0 on");
        due("about(5, 10)", x.about(5, 10), 4);
        due("about(5, 11)", x.about(5, 11), 3);
        put(x, 2, 10, 10, 1);
        due("no SEGMENT 0", x.about(2, 10), NONE);
        for (int k = 0; k < 8; k++) {
            x.segment(2, 90 + k);
            due("SEGMENT " + k, x.about(2, 10 + k), 90 + k);
            due("none behind " + k, x.about(2, 11 + k), NONE);
        }
    }

    private static int verdict(int firstDeadline, int secondDeadline, int id) {
        Counted x = new Counted();
        put(x, id, 10, firstDeadline, 9, 2);
        put(x, 9 - id, 50, secondDeadline, 3, 1, 4);
        return x.admit();
    }

    private static void admit() {
        sentence("7: 1 if all WORSTS are within the DEADLINES; else less its ID");
        due("both at their DEADLINE", verdict(5, 7, 1), 1);
        due("the first one tick late", verdict(4, 7, 1), -1);
        due("the second one tick late", verdict(5, 6, 1), -8);
        sentence("7: the HIGHEST task that is not so");
        due("both late", verdict(4, 6, 1), -1);
        due("both late, the other IDs", verdict(4, 6, 8), -8);
        sentence("7: less its ID and 100 if it is TOO LONG");
        Counted x = fullSet();
        due("the HIGHEST is TOO LONG", x.admit(), -101);
        Counted y = new Counted();
        put(y, 8, 10, 10, 9, 10);
        put(y, 7, 10, 80, 8, 1);
        due("the second is TOO LONG", y.admit(), -107);
        y.clear();
        put(y, 7, 10, 9, 9, 10);
        put(y, 8, 10, 80, 8, 1);
        due("the HIGHEST is late, the second is TOO LONG", y.admit(), -7);
        y.clear();
        put(y, 7, 10, 10, 9, 9);
        put(y, 8, 100, 800, 8, 11);
        due("the HIGHEST is late by its BLOCKING", y.admit(), -7);
    }

    private static void admitNotReady() {
        sentence("7: IllegalStateException: the set is not READY");
        Counted x = new Counted();
        dueThrow("no task", NOT_READY, x::admit);
        put(x, 8, 10, 10, 1);
        dueThrow("no SEGMENT", NOT_READY, x::admit);
        x.segment(8, 10);
        due("one task, one SEGMENT", x.admit(), 1);
        arrives(x, 8);
        due("a job does not count", x.admit(), 1);
    }

    private static void response() {
        sentence("8: IndexOutOfBoundsException: there is none such");
        Counted x = threeTasks();
        for (int id : NO_IDS) {
            dueThrow("response " + id, NO_TASK, () -> x.response(id));
        }
        due("response 1", x.response(1), 5);
        due("response 3", x.response(3), 10);
        due("response 5", x.response(5), 16);
        sentence("8: ArithmeticException: it is TOO LONG");
        Counted full = fullSet();
        dueThrow("the HIGHEST with BLOCKING 1", TOO_LONG, () -> full.response(1));
        dueThrow("the LOWER one", TOO_LONG, () -> full.response(3));
        Counted free = new Counted();
        put(free, 1, 10, 80, 30, 4, 6);
        put(free, 3, 50, 400, 20, 1);
        due("the HIGHEST with BLOCKING 0", free.response(1), 10);
        dueThrow("only the LOWER one", TOO_LONG, () -> free.response(3));
        sentence("8: above its DEADLINE it is told all the same");
        Counted late = new Counted();
        put(late, 1, 10, 1, 5, 8);
        due("WORST 8 of DEADLINE 1", late.response(1), 8);
    }

    private static void job() {
        sentence("9: NONE if it is not one of the RESPONSES");
        Counted x = new Counted();
        put(x, 1, 5, 5, 9, 2);
        put(x, 2, 7, 7, 5, 1, 1, 2);
        dueJobs("the lower one", x, 2, 6, 7);
        dueJobs("the higher one", x, 1, 3);
        for (int k : new int[] {LEAST, -2, -1, 2, 3, 200, 512, MOST}) {
            due("job " + k, x.job(2, k), NONE);
        }
        sentence("9: exceptions as with response()");
        for (int id : new int[] {LEAST, -1, 0, 3, 9, MOST}) {
            dueThrow("job of " + id, NO_TASK, () -> x.job(id, 0));
        }
        Counted full = fullSet();
        dueThrow("TOO LONG: job 0", TOO_LONG, () -> full.job(1, 0));
        dueThrow("TOO LONG: job -1", TOO_LONG, () -> full.job(1, -1));
        put(full, 8, 10, 10, 1);
        dueThrow("not READY: job -1", NOT_READY, () -> full.job(1, -1));
    }

    private static void tolerance() {
        sentence("10: IndexOutOfBoundsException: there is none such; IllegalStateException: the set is not READY");
        Counted x = threeTasks();
        for (int id : NO_IDS) {
            dueThrow("tolerance " + id, NO_TASK, () -> x.tolerance(id));
        }
        due("tolerance 1", x.tolerance(1), 8);
        due("tolerance 3", x.tolerance(3), 5);
        due("tolerance 5", x.tolerance(5), 19);
        sentence("10: TOO LONG is no exception here");
        Counted full = fullSet();
        due("TOO LONG with its BLOCKING, not with 0", full.tolerance(1), 0);
        due("TOO LONG with 0", full.tolerance(3), NONE);
        put(full, 8, 10, 10, 1);
        dueThrow("not READY", NOT_READY, () -> full.tolerance(1));
    }

    private static void stretch() {
        sentence("11: IllegalStateException: the set is not READY, or not admitted, or a job has arrived");
        Counted x = new Counted();
        dueThrow("no task", NOT_READY, x::stretch);
        put(x, 1, 10, 10, 9, 1, 1);
        put(x, 2, 10, 10, 5);
        dueThrow("no SEGMENT", NOT_READY, x::stretch);
        dueSegments("no SEGMENT", x, 1, 1, 1);
        x.segment(2, 1);
        arrives(x, 1);
        dueThrow("a job waits", NOT_READY, x::stretch);
        x.tick(100);
        dueThrow("a job is done", NOT_READY, x::stretch);
        dueSegments("a job", x, 1, 1, 1);
        x.reset();
        due("after reset", x.stretch(), 1);
        dueSegments("after reset", x, 1, 2);
        x.clear();
        put(x, 1, 10, 1, 9, 1, 1);
        dueThrow("not admitted: above the DEADLINE", NOT_READY, x::stretch);
        dueSegments("not admitted", x, 1, 1, 1);
        Counted full = fullSet();
        dueThrow("not admitted: TOO LONG", NOT_READY, full::stretch);
        dueSegments("TOO LONG", full, 1, 4, 6);
        sentence("11: by how many there are fewer SEGMENTS in all");
        due("of two tasks", threeTasks().stretch(), 2);
    }

    private static void answersAfterStretch() {
        sentence("11: The set is STRETCHED");
        Counted x = new Counted();
        put(x, 1, 10, 6, 9, 2);
        put(x, 2, 40, 34, 5, 2, 2, 2, 2);
        due("BLOCKING before", x.about(1, 5), 1);
        due("WORST before: 1", x.response(1), 3);
        due("WORST before: 2", x.response(2), 10);
        due("TOLERANCE before", x.tolerance(2), 18);
        due("fewer", x.stretch(), 1);
        due("BLOCKING after", x.about(1, 5), 4);
        due("WORST after: 1", x.response(1), 6);
        due("WORST after: 2", x.response(2), 10);
        due("TOLERANCE after", x.tolerance(2), 20);
        due("still admitted", x.admit(), 1);
        dueScenario("of the new SEGMENTS", x, 1, 0, 2, 4, 1);
        arrives(x, 2);
        x.tick(4);
        due("the kernel runs the new ones", x.seen(2, 5), 4);
    }

    /** What was asked before a change is not what is due after it. */
    private static void answersFollowTheSet() {
        sentence("7 to 10, 12: of the tasks as they are now");
        Counted x = new Counted();
        put(x, 1, 10, 5, 9, 2);
        dueFindings("one task", x, 1, 2, 3, 1, 0);
        x.segment(1, 1);
        dueFindings("one SEGMENT more", x, 1, 3, 2, 1, 0);
        put(x, 2, 50, 50, 5, 2);
        dueFindings("a LOWER task", x, 1, 4, 2, 1, 1);
        put(x, 3, 20, 20, 10, 1);
        dueFindings("a HIGHER task", x, 1, 5, 1, 1, 1);
        x.segment(2, 4);
        dueFindings("a longer SEGMENT below", x, 1, 7, 1, -1, 3);
        x.clear();
        put(x, 1, 10, 5, 9, 4);
        dueFindings("after clear", x, 1, 4, 1, 1, 0);
    }

    private static void dueFindings(String what, Counted x, int id, int worst, int tolerance, int verdict, int start) {
        due(what + ": response", x.response(id), worst);
        due(what + ": job", x.job(id, 0), worst);
        due(what + ": tolerance", x.tolerance(id), tolerance);
        due(what + ": admit", x.admit(), verdict);
        due(what + ": scenario", x.scenario(id, 1, 0), start == 0 ? NONE : start);
    }

    private static void scenario() {
        sentence("12: NONE if there is none such, or for another what");
        Counted x = threeTasks();
        dueScenario("of the lowest", x, 5, 0, 1, 0, 3, 0, 5, 10, 1, 14, 3);
        for (int i : new int[] {LEAST, -2, -1, 5, 6, 1000, MOST}) {
            due("arrival " + i + ": time", x.scenario(5, i, 0), NONE);
            due("arrival " + i + ": task", x.scenario(5, i, 1), NONE);
        }
        for (int what : new int[] {LEAST, -1, 2, 3, MOST}) {
            due("what " + what, x.scenario(5, 0, what), NONE);
            due("what " + what + " of a blocked one", x.scenario(1, 0, what), NONE);
        }
        sentence("12: exceptions as with response()");
        for (int id : NO_IDS) {
            dueThrow("scenario of " + id, NO_TASK, () -> x.scenario(id, 0, 0));
        }
        Counted full = fullSet();
        dueThrow("TOO LONG", TOO_LONG, () -> full.scenario(1, 0, 0));
        dueThrow("TOO LONG, another what", TOO_LONG, () -> full.scenario(1, 0, 2));
        dueThrow("TOO LONG, arrival -1", TOO_LONG, () -> full.scenario(1, -1, 0));
        put(full, 8, 10, 10, 1);
        dueThrow("not READY", NOT_READY, () -> full.scenario(1, -1, 2));
    }

    private static void scenarioAboveDeadline() {
        sentence("12: of a set that is not admitted too");
        Counted x = new Counted();
        put(x, 1, 10, 1, 9, 2);
        put(x, 2, 20, 1, 5, 3);
        due("not admitted", x.admit(), -1);
        dueScenario("the first", x, 1, 0, 2, 1, 1);
        dueScenario("the second", x, 2, 0, 1, 0, 2);
    }

    private static void arriveRefused() {
        sentence("13: false if there is no such task, the set is not READY");
        Counted x = threeTasks();
        for (int id : NO_IDS) {
            due("arrive " + id, x.arrive(id), false);
        }
        put(x, 2, 10, 10, 1);
        due("not READY by another task", x.arrive(1), false);
        due("not READY by itself", x.arrive(2), false);
        due("none has arrived", x.seen(1, 0) + x.seen(2, 0), 0);
        x.segment(2, 1);
        due("READY", x.arrive(2), true);
    }

    private static void arriveTooSoon() {
        sentence("13: false if its latest job arrived less than its DISTANCE ago");
        Counted x = threeTasks();
        due("the first at any time", x.tick(3) == 0 && x.arrive(1), true);
        due("0 ago", x.arrive(1), false);
        x.tick(9);
        due("9 ago, it is done", x.seen(1, 1), 1);
        due("9 ago", x.arrive(1), false);
        due("another task's jobs do not count", x.arrive(3), true);
        x.tick(1);
        due("10 ago: the refused one did not count", x.arrive(1), true);
        x.tick(9);
        due("9 after the latest", x.arrive(1), false);
        x.tick(1);
        due("10 after the latest", x.arrive(1), true);
        due("arrived", x.seen(1, 0), 3);
        x.reset();
        due("after reset at once", x.arrive(1), true);
        Counted each = new Counted();
        put(each, 1, 1, 1, 1, 1);
        due("DISTANCE 1: the first", each.arrive(1), true);
        due("DISTANCE 1: at the same time", each.arrive(1), false);
        each.tick(1);
        due("DISTANCE 1: a tick later", each.arrive(1), true);
    }

    private static void arriveNinth() {
        sentence("13: false if 9 jobs of it are not done");
        Counted x = new Counted();
        put(x, 1, 1, 8, 1, 3);
        put(x, 2, 1000, 1000, 9, 100);
        arrives(x, 2);
        for (int k = 0; k < 9; k++) {
            arrives(x, 1);
            x.tick(1);
        }
        due("a tenth", x.arrive(1), false);
        x.tick(93);
        due("the first is under way", x.seen(1, 5), 1);
        due("while it is under way", x.arrive(1), false);
        x.tick(1);
        for (int k = 0; k < 20; k++) {
            due("one is done, number " + k, x.arrive(1), true);
            x.tick(1);
            due("nine again, number " + k, x.arrive(1), false);
            x.tick(2);
        }
        due("done", x.seen(1, 1), 21);
        due("the first", x.ended(1, 0), 103);
        due("the ninth", x.ended(1, 8), 119);
        due("the tenth came at 103", x.ended(1, 9), 27);
        due("the one that came at 136", x.ended(1, 20), 27);
    }

    private static void tick() {
        sentence("14: IllegalArgumentException: n is not 1 .. 2000");
        Counted x = threeTasks();
        arrives(x, 5);
        for (int n : new int[] {LEAST, -2000, -1, 0, 2001, 2002, MOST}) {
            dueThrow("tick " + n, IllegalArgumentException.class, () -> x.tick(n));
        }
        due("the clock stands", x.now(), 0);
        due("nothing is under way", x.seen(5, 5), 0);
        due("tick 1", x.tick(1), 5);
        due("the clock", x.now(), 1);
        due("tick 2000", x.tick(2000), 0);
        due("the clock", x.now(), 2001);
        sentence("14: the ID of the task that had the last one, 0 for none");
        arrives(x, 5);
        due("the last tick of the first SEGMENT", x.tick(4), 5);
        arrives(x, 1);
        due("the first tick of the HIGHER one", x.tick(1), 1);
        due("the last tick of the second SEGMENT", x.tick(4), 5);
        due("done", x.seen(5, 1), 2);
        due("nobody", x.tick(1), 0);
        arrives(x, 3);
        due("worked, but not in the last", x.tick(6), 0);
    }

    private static void ticksInPieces() {
        sentence("14: n ticks are n times one");
        Counted whole = inMidRun();
        Counted pieces = inMidRun();
        for (int k = 0; k < 3; k++) {
            whole.tick(14);
            for (int t = 0; t < 14; t++) {
                pieces.tick(1);
            }
            for (int id : new int[] {1, 3, 5}) {
                due("arrive " + id, pieces.arrive(id), whole.arrive(id));
            }
        }
        whole.tick(8);
        pieces.tick(1);
        pieces.tick(2);
        pieces.tick(5);
        due("now", pieces.now(), whole.now());
        for (int id : new int[] {1, 3, 5}) {
            for (int what = 0; what <= 5; what++) {
                due("seen(" + id + ", " + what + ")", pieces.seen(id, what), whole.seen(id, what));
            }
            for (int k = 0; k <= 4; k++) {
                due("ended(" + id + ", " + k + ")", pieces.ended(id, k), whole.ended(id, k));
            }
        }
    }

    private static void now() {
        sentence("15: The clock");
        Counted x = threeTasks();
        due("at first", x.now(), 0);
        due("asking does not change it", x.now(), 0);
        arrives(x, 1);
        due("an arrival takes no time", x.now(), 0);
        x.tick(1);
        due("1", x.now(), 1);
        x.tick(2000);
        due("2001", x.now(), 2001);
        x.reset();
        due("reset", x.now(), 0);
        x.tick(5);
        x.clear();
        due("clear", x.now(), 0);
    }

    private static void ended() {
        sentence("16: NONE if there is none such, it is not done, or not noted");
        Counted x = threeTasks();
        for (int id : NO_IDS) {
            due("ended(" + id + ", 0)", x.ended(id, 0), NONE);
        }
        due("none has arrived", x.ended(5, 0), NONE);
        arrives(x, 5);
        due("it waits", x.ended(5, 0), NONE);
        x.tick(4);
        due("between its SEGMENTS", x.ended(5, 0), NONE);
        x.tick(2);
        due("a tick is left", x.ended(5, 0), NONE);
        x.tick(1);
        due("done", x.ended(5, 0), 7);
        for (int k : new int[] {LEAST, -1, 1, 9, 199, 200, 201, MOST}) {
            due("ended(5, " + k + ")", x.ended(5, k), NONE);
        }
        x.tick(100);
        due("it stays", x.ended(5, 0), 7);
    }

    private static void seen() {
        sentence("17: NONE if there is no such task, or for another what");
        Counted x = threeTasks();
        for (int id : NO_IDS) {
            for (int what = 0; what <= 5; what++) {
                due("seen(" + id + ", " + what + ")", x.seen(id, what), NONE);
            }
        }
        for (int what : new int[] {LEAST, -1, 6, 7, 10, MOST}) {
            due("seen(1, " + what + ")", x.seen(1, what), NONE);
        }
        put(x, 2, 10, 10, 1);
        dueSeen("a task without a SEGMENT", x, 2, 0, 0, 0, 0, 0, 0);
    }

    private static void seenResponses() {
        sentence("17: the greatest response of these (0 without one)");
        Counted x = threeTasks();
        due("without one", x.seen(3, 2), 0);
        arrives(x, 3);
        x.tick(4);
        due("not done", x.seen(3, 2), 0);
        x.tick(1);
        due("the first", x.seen(3, 2), 5);
        x.tick(9);
        arrives(x, 3);
        arrives(x, 1);
        x.tick(14);
        due("a greater one", x.seen(3, 2), 7);
        arrives(x, 3);
        x.tick(14);
        due("a lesser one", x.seen(3, 2), 7);
        due("done", x.seen(3, 1), 3);
    }

    private static void seenMissed() {
        sentence("17: how many missed the DEADLINE (done with a greater response)");
        Counted x = new Counted();
        put(x, 1, 10, 5, 1, 4);
        put(x, 2, 1, 8, 9, 1);
        arrives(x, 1);
        arrives(x, 2);
        x.tick(10);
        due("a response of 5", x.ended(1, 0), 5);
        due("as great as the DEADLINE", x.seen(1, 4), 0);
        arrives(x, 1);
        arrives(x, 2);
        x.tick(1);
        arrives(x, 2);
        x.tick(4);
        due("late, but not done", x.seen(1, 4), 0);
        x.tick(1);
        due("a response of 6", x.ended(1, 1), 6);
        due("greater by 1", x.seen(1, 4), 1);
        due("the other missed none", x.seen(2, 4), 0);
    }

    private static void seenLeft() {
        sentence("17: what is left of the SEGMENT under way, if it is one of its own, else 0");
        Counted x = threeTasks();
        arrives(x, 5);
        due("not begun", x.seen(5, 5), 0);
        x.tick(1);
        due("begun", x.seen(5, 5), 3);
        due("another task", x.seen(1, 5), 0);
        arrives(x, 1);
        due("a HIGHER one waits", x.seen(5, 5), 3);
        x.tick(2);
        due("a tick is left", x.seen(5, 5), 1);
        x.tick(1);
        due("it ended", x.seen(5, 5), 0);
        x.tick(1);
        due("the HIGHER one", x.seen(1, 5), 1);
        due("not its own", x.seen(5, 5), 0);
        x.tick(2);
        due("the next SEGMENT", x.seen(5, 5), 2);
    }

    public static void main(String[] args) {
        newObject();
        taskWithSameId();
        taskNotAsTold();
        changesAfterArrival();
        segmentRefused();
        segmentAfterStretch();
        clear();
        clearBetweenSegments();
        reset();
        resetBetweenSegments();
        about();
        admit();
        admitNotReady();
        response();
        job();
        tolerance();
        stretch();
        answersAfterStretch();
        answersFollowTheSet();
        scenario();
        scenarioAboveDeadline();
        arriveRefused();
        arriveTooSoon();
        arriveNinth();
        tick();
        ticksInPieces();
        now();
        ended();
        seen();
        seenResponses();
        seenMissed();
        seenLeft();
        finish("all calls hold at their boundaries");
    }
}
