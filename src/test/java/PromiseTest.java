/** Each promise of the document, its edges and wrong inputs; the answers due were found by hand. */
public final class PromiseTest extends Checks {
    private static Counted threeTasks() {
        Counted x = new Counted();
        put(x, 1, 10, 10, 30, 2);
        put(x, 2, 14, 14, 20, 2, 3);
        put(x, 3, 40, 60, 10, 4, 3);
        return x;
    }

    private static Counted twoTasks() {
        Counted x = new Counted();
        put(x, 1, 5, 5, 9, 2);
        put(x, 2, 7, 7, 5, 1, 1, 2);
        return x;
    }

    private static void newObject() {
        Counted x = new Counted();
        due("new: now", x.now(), 0);
        for (int id = 0; id <= 9; id++) {
            due("new: about", x.about(id, 0), NONE);
            due("new: seen", x.seen(id, 0), NONE);
            due("new: ended", x.ended(id, 0), NONE);
            due("new: arrive", x.arrive(id), false);
        }
        due("new: tick", x.tick(3), 0);
        due("new: now after ticks", x.now(), 3);
        Counted y = new Counted();
        put(x, 1, 5, 5, 5, 1);
        due("new: apart from others", y.about(1, 0), NONE);
        due("new: own clock", y.now(), 0);
    }

    private static void task() {
        Counted x = new Counted();
        due("task: id 0", x.task(0, 10, 10, 1), false);
        due("task: id 9", x.task(9, 10, 10, 1), false);
        due("task: least id", x.task(LEAST, 10, 10, 1), false);
        due("task: most id", x.task(MOST, 10, 10, 1), false);
        due("task: distance 0", x.task(1, 0, 1, 1), false);
        due("task: distance 1001", x.task(1, 1001, 1, 1), false);
        due("task: most distance", x.task(1, MOST, 1, 1), false);
        due("task: deadline 0", x.task(1, 10, 0, 1), false);
        due("task: deadline 81 of 10", x.task(1, 10, 81, 1), false);
        due("task: most deadline", x.task(1, 1000, MOST, 1), false);
        due("task: priority -1", x.task(1, 10, 10, -1), false);
        due("task: priority 100", x.task(1, 10, 10, 100), false);
        due("task: nothing came of it", x.about(1, 0), NONE);
        put(x, 8, 1000, 8000, 99);
        put(x, 1, 1, 1, 0);
        put(x, 2, 1, 8, 50);
        due("task: same id", x.task(8, 10, 10, 3), false);
        due("task: same priority", x.task(3, 10, 10, 99), false);
        due("task: same priority 0", x.task(3, 10, 10, 0), false);
        due("task: old distance stays", x.about(8, 0), 1000);
        for (int id = 3; id <= 7; id++) {
            put(x, id, 10, 10, 10 + id);
        }
        for (int id = 1; id <= 8; id++) {
            due("task: after all eight", x.task(id, 10, 10, 70), false);
            due("task: segment for all", x.segment(id, 1), true);
        }
        due("task: ticks do not close the set", x.tick(1), 0);
        x.clear();
        put(x, 3, 20, 20, 7, 1);
        x.tick(5);
        put(x, 4, 20, 20, 8, 1);
        due("task: first arrival", x.arrive(3), true);
        due("task: a job has arrived", x.task(5, 20, 20, 9), false);
        x.tick(1);
        due("task: it is done", x.seen(3, 1), 1);
        due("task: a job had arrived", x.task(5, 20, 20, 9), false);
        x.reset();
        due("task: reset opens the set", x.task(5, 20, 20, 9), true);
    }

    private static void segment() {
        Counted x = new Counted();
        due("segment: no task", x.segment(1, 5), false);
        put(x, 1, 100, 100, 1);
        due("segment: 0", x.segment(1, 0), false);
        due("segment: -1", x.segment(1, -1), false);
        due("segment: 101", x.segment(1, 101), false);
        due("segment: most", x.segment(1, MOST), false);
        due("segment: id 0", x.segment(0, 1), false);
        due("segment: id 9", x.segment(9, 1), false);
        due("segment: other id", x.segment(2, 1), false);
        for (int k = 1; k <= 6; k++) {
            due("segment: number " + k, x.segment(1, k), true);
        }
        due("segment: 100", x.segment(1, 100), true);
        due("segment: 1", x.segment(1, 1), true);
        due("segment: ninth", x.segment(1, 1), false);
        dueSegments("segment", x, 1, 1, 2, 3, 4, 5, 6, 100, 1);
        due("segment: work", x.about(1, 4), 122);
        put(x, 2, 100, 100, 2, 1);
        due("segment: arrive", x.arrive(2), true);
        due("segment: a job has arrived", x.segment(2, 1), false);
        x.reset();
        due("segment: after reset", x.segment(2, 1), true);
        x.clear();
        due("segment: after clear", x.segment(2, 1), false);
        put(x, 1, 100, 100, 1);
        due("segment: forgotten by clear", x.about(1, 3), 0);
        due("segment: work forgotten by clear", x.about(1, 4), 0);
    }

    private static void clearAndReset() {
        Counted x = twoTasks();
        x.arrive(2);
        x.tick(1);
        x.arrive(1);
        x.tick(2);
        due("reset: before, a segment is under way", x.seen(1, 5), 0);
        due("reset: before, interrupted", x.seen(2, 3), 1);
        x.reset();
        due("reset: now", x.now(), 0);
        for (int id = 1; id <= 2; id++) {
            for (int what = 0; what <= 5; what++) {
                due("reset: seen(" + id + ", " + what + ")", x.seen(id, what), 0);
            }
            due("reset: ended", x.ended(id, 0), NONE);
        }
        dueSegments("reset", x, 2, 1, 1, 2);
        due("reset: nothing runs", x.tick(1), 0);
        due("reset: arrives at once", x.arrive(2), true);
        due("reset: begins anew", x.tick(4), 2);
        due("reset: whole job", x.ended(2, 0), 4);
        due("reset: not interrupted", x.seen(2, 3), 0);
        x.arrive(1);
        x.tick(1);
        due("clear: under way before", x.seen(1, 5), 1);
        x.clear();
        due("clear: now", x.now(), 0);
        due("clear: task", x.about(1, 0), NONE);
        due("clear: seen", x.seen(1, 0), NONE);
        due("clear: ended", x.ended(2, 0), NONE);
        due("clear: tick", x.tick(1), 0);
        dueThrow("clear: admit", IllegalStateException.class, x::admit);
        put(x, 1, 5, 5, 5, 3);
        due("clear: nothing under way", x.seen(1, 5), 0);
        due("clear: no jobs", x.seen(1, 0), 0);
        due("clear: arrive", x.arrive(1), true);
        due("clear: new response", x.response(1), 3);
    }

    private static void about() {
        Counted x = threeTasks();
        int[][] dueItems = {{10, 10, 30, 1, 2, 3}, {14, 14, 20, 2, 5, 3}, {40, 60, 10, 2, 7, 0}};
        for (int id = 1; id <= 3; id++) {
            for (int what = 0; what <= 5; what++) {
                due("about(" + id + ", " + what + ")", x.about(id, what), dueItems[id - 1][what]);
            }
        }
        dueSegments("about", x, 3, 4, 3);
        int[] others = {LEAST, -1, 6, 7, 8, 9, 12, 18, MOST};
        for (int what : others) {
            due("about(3, " + what + ")", x.about(3, what), NONE);
        }
        due("about: id 0", x.about(0, 0), NONE);
        due("about: id 9", x.about(9, 10), NONE);
        due("about: id 4", x.about(4, 3), NONE);
        due("about: least id", x.about(LEAST, 0), NONE);
        put(x, 4, 9, 9, 0);
        due("about: no segments", x.about(4, 3), 0);
        due("about: no segment 0", x.about(4, 10), NONE);
        due("about: blocking without segments below", x.about(3, 5), 0);
        x.segment(4, 1);
        due("about: blocking of segments of 1", x.about(3, 5), 0);
        x.segment(4, 100);
        due("about: blocking 99", x.about(3, 5), 99);
        due("about: blocking of the highest", x.about(1, 5), 99);
        due("about: blocking of the lowest", x.about(4, 5), 0);
    }

    private static void admit() {
        Counted x = new Counted();
        dueThrow("admit: empty", IllegalStateException.class, x::admit);
        put(x, 1, 10, 10, 7);
        dueThrow("admit: no segment", IllegalStateException.class, x::admit);
        x.segment(1, 10);
        due("admit: just in time", x.admit(), 1);
        put(x, 2, 100, 100, 1);
        dueThrow("admit: one without", IllegalStateException.class, x::admit);
        x.segment(2, 1);
        due("admit: never an idle tick", x.admit(), -102);
        due("admit: three", threeTasks().admit(), 1);
        Counted y = new Counted();
        put(y, 3, 10, 4, 9, 2);
        put(y, 5, 50, 6, 3, 1, 3);
        due("admit: within", y.admit(), 1);
        y.clear();
        put(y, 3, 10, 4, 9, 2);
        put(y, 5, 50, 6, 3, 1, 4);
        due("admit: the highest that is not so", y.admit(), -3);
        y.clear();
        put(y, 3, 10, 5, 9, 2);
        put(y, 5, 50, 6, 3, 1, 4);
        due("admit: the lower one alone", y.admit(), -5);
        y.arrive(3);
        due("admit: with a job", y.admit(), -5);
    }

    private static void response() {
        Counted x = threeTasks();
        due("response 1", x.response(1), 5);
        due("response 2", x.response(2), 10);
        due("response 3", x.response(3), 16);
        due("response: second job is worst", twoTasks().response(2), 7);
        dueThrow("response: id 0", IndexOutOfBoundsException.class, () -> x.response(0));
        dueThrow("response: id 9", IndexOutOfBoundsException.class, () -> x.response(9));
        dueThrow("response: id 4", IndexOutOfBoundsException.class, () -> x.response(4));
        put(x, 4, 10, 10, 1);
        dueThrow("response: not ready", IllegalStateException.class, () -> x.response(1));
        dueThrow("response: none such first", IndexOutOfBoundsException.class, () -> x.response(5));
        x.segment(4, 6);
        due("response: 1 with a longer segment below", x.response(1), 7);
        dueThrow("response: too long", ArithmeticException.class, () -> x.response(4));
    }

    /** A busy time of 20000 ticks is not too long, one of 20001 is. */
    private static void longestBusy() {
        Counted x = new Counted();
        put(x, 1, 200, 200, 9, 79);
        put(x, 2, 73, 584, 8, 44);
        put(x, 3, 1000, 1000, 7, 45);
        due("busy 20000: last job", x.job(2, 273) == NONE, false);
        due("busy 20000: behind it", x.job(2, 274), NONE);
        Counted y = new Counted();
        put(y, 1, 73, 73, 9, 59);
        put(y, 2, 137, 1000, 8, 26);
        put(y, 3, 1000, 1000, 7, 40);
        dueThrow("busy 20001", ArithmeticException.class, () -> y.response(2));
        due("busy 20001: admit", y.admit(), -1);
        Counted z = new Counted();
        put(z, 1, 1000, 1000, 9, 100, 100, 100, 100, 100, 100, 100, 100);
        put(z, 2, 1000, 8000, 8, 100, 99);
        put(z, 3, 1000, 8000, 7, 21);
        due("20 distances: response", z.response(2), 1019);
        due("20 distances: job 19", z.job(2, 19), 1000);
        due("20 distances: job 20", z.job(2, 20), NONE);
        due("20 distances: tolerance", z.tolerance(2), 20);
        z.segment(3, 22);
        dueThrow("21 distances", ArithmeticException.class, () -> z.response(2));
        dueThrow("21 distances: job", ArithmeticException.class, () -> z.job(2, 0));
        dueThrow("21 distances: scenario", ArithmeticException.class, () -> z.scenario(2, 0, 0));
        due("21 distances: tolerance as before", z.tolerance(2), 20);
        due("21 distances: admit", z.admit(), -102);
    }

    private static void job() {
        Counted x = twoTasks();
        int[] responses = {6, 7, NONE, NONE};
        for (int k = 0; k < responses.length; k++) {
            due("job " + k, x.job(2, k), responses[k]);
        }
        due("job: 1, 0", x.job(1, 0), 3);
        due("job: 1, 1", x.job(1, 1), NONE);
        due("job: -1", x.job(2, -1), NONE);
        due("job: least", x.job(2, LEAST), NONE);
        due("job: most", x.job(2, MOST), NONE);
        dueThrow("job: id 3", IndexOutOfBoundsException.class, () -> x.job(3, 0));
        dueThrow("job: id 0", IndexOutOfBoundsException.class, () -> x.job(0, -1));
        x.segment(2, 3);
        dueThrow("job: too long", ArithmeticException.class, () -> x.job(2, -1));
        put(x, 3, 9, 9, 1);
        dueThrow("job: not ready", IllegalStateException.class, () -> x.job(2, 0));
        dueThrow("job: none such first", IndexOutOfBoundsException.class, () -> x.job(4, 0));
    }

    private static void tolerance() {
        Counted x = threeTasks();
        due("tolerance 1", x.tolerance(1), 8);
        due("tolerance 2", x.tolerance(2), 5);
        due("tolerance 3", x.tolerance(3), 19);
        Counted y = new Counted();
        put(y, 1, 10, 80, 5, 10);
        due("tolerance: no idle tick bears nothing but 0", y.tolerance(1), 0);
        y.clear();
        put(y, 1, 10, 9, 5, 10);
        due("tolerance: NONE", y.tolerance(1), NONE);
        y.clear();
        put(y, 1, 10, 80, 5, 1);
        due("tolerance: up to the deadline", y.tolerance(1), 79);
        put(y, 2, 10, 80, 1, 10);
        due("tolerance: too long", y.tolerance(2), NONE);
        due("tolerance: others of that set", y.tolerance(1), 79);
        dueThrow("tolerance: id 3", IndexOutOfBoundsException.class, () -> y.tolerance(3));
        dueThrow("tolerance: id 9", IndexOutOfBoundsException.class, () -> y.tolerance(9));
        put(y, 3, 10, 80, 2);
        dueThrow("tolerance: not ready", IllegalStateException.class, () -> y.tolerance(1));
        dueThrow("tolerance: none such first", IndexOutOfBoundsException.class, () -> y.tolerance(4));
    }

    private static void stretch() {
        Counted x = new Counted();
        dueThrow("stretch: empty", IllegalStateException.class, x::stretch);
        put(x, 1, 10, 6, 9, 2);
        put(x, 2, 40, 40, 5);
        dueThrow("stretch: not ready", IllegalStateException.class, x::stretch);
        x.segment(2, 2);
        x.segment(2, 2);
        x.segment(2, 2);
        x.segment(2, 2);
        x.arrive(1);
        dueThrow("stretch: a job has arrived", IllegalStateException.class, x::stretch);
        dueSegments("stretch: not changed", x, 2, 2, 2, 2, 2);
        x.reset();
        due("stretch: fewer", x.stretch(), 1);
        dueSegments("stretch: cut inside", x, 2, 2, 1, 5);
        due("stretch: work stays", x.about(2, 4), 8);
        due("stretch: blocking grows", x.about(1, 5), 4);
        due("stretch: worst is the deadline", x.response(1), 6);
        due("stretch: again", x.stretch(), 0);
        dueSegments("stretch: again", x, 2, 2, 1, 5);
        x.clear();
        put(x, 1, 10, 6, 9, 2);
        put(x, 2, 40, 40, 5, 3, 3, 2);
        due("stretch: at a border", x.stretch(), 1);
        dueSegments("stretch: at a border", x, 2, 3, 5);
        x.clear();
        put(x, 1, 10, 6, 9, 2);
        put(x, 2, 40, 40, 5, 1, 4, 3);
        due("stretch: as many", x.stretch(), 0);
        dueSegments("stretch: as many", x, 2, 1, 2, 5);
        x.clear();
        put(x, 2, 1000, 1000, 5, 100, 100, 100, 100, 100, 100, 100, 100);
        due("stretch: the highest becomes one", x.stretch(), 7);
        dueSegments("stretch: longer than one may be told", x, 2, 800);
        due("stretch: room for more", x.segment(2, 100), true);
        due("stretch: not admitted", x.task(3, 10, 10, 9) && x.segment(3, 1), true);
        dueThrow("stretch: not admitted", IllegalStateException.class, x::stretch);
        dueSegments("stretch: not admitted", x, 2, 800, 100);
        Counted y = threeTasks();
        due("stretch: three", y.stretch(), 2);
        dueSegments("stretch: three, 2", y, 2, 5);
        dueSegments("stretch: three, 3", y, 3, 7);
        due("stretch: three, tolerance of 2 as stretched", y.tolerance(2), 7);
        due("stretch: three, response of 3", y.response(3), 14);
    }

    private static void scenario() {
        Counted x = threeTasks();
        dueScenario("scenario 1", x, 1, 0, 3, 1, 1);
        dueScenario("scenario 2", x, 2, 0, 3, 1, 1, 1, 2);
        dueScenario("scenario 3", x, 3, 0, 1, 0, 2, 0, 3, 10, 1, 14, 2);
        dueScenario("scenario of the second job", twoTasks(), 2, 0, 1, 0, 2, 5, 1, 7, 2, 10, 1);
        Counted y = new Counted();
        put(y, 1, 20, 20, 9, 1);
        put(y, 2, 50, 50, 8, 3);
        put(y, 3, 50, 50, 7, 2, 4, 1, 4);
        put(y, 4, 50, 50, 6, 4);
        dueScenario("scenario: behind the work ahead", y, 1, 0, 3, 3, 1);
        dueScenario("scenario: no longer blocked", y, 4, 0, 1, 0, 2, 0, 3, 0, 4);
        y.clear();
        put(y, 1, 20, 20, 9, 2);
        put(y, 2, 20, 20, 8, 1, 1);
        dueScenario("scenario: segments of 1 block nobody", y, 1, 0, 1);
        int[] others = {LEAST, -1, 2, MOST};
        for (int odd : others) {
            due("scenario: what " + odd, x.scenario(1, 0, odd), NONE);
            due("scenario: arrival " + odd, x.scenario(1, odd, 0), NONE);
        }
        dueThrow("scenario: id 9", IndexOutOfBoundsException.class, () -> x.scenario(9, 0, 0));
        put(x, 4, 10, 10, 1);
        dueThrow("scenario: not ready", IllegalStateException.class, () -> x.scenario(1, 0, 5));
        dueThrow("scenario: none such first", IndexOutOfBoundsException.class, () -> x.scenario(5, 0, 0));
        x.segment(4, 9);
        dueThrow("scenario: too long", ArithmeticException.class, () -> x.scenario(4, -1, 0));
    }

    private static void arrive() {
        Counted x = new Counted();
        put(x, 1, 1, 8, 5, 100);
        put(x, 2, 30, 30, 4);
        due("arrive: not ready", x.arrive(1), false);
        x.segment(2, 1);
        due("arrive: id 0", x.arrive(0), false);
        due("arrive: id 9", x.arrive(9), false);
        due("arrive: id 3", x.arrive(3), false);
        due("arrive: nothing arrived", x.segment(2, 1), true);
        for (int k = 0; k < 9; k++) {
            due("arrive: job " + k, x.arrive(1), true);
            due("arrive: too soon", x.arrive(1), false);
            x.tick(1);
        }
        due("arrive: nine are open", x.arrive(1), false);
        x.tick(90);
        due("arrive: nine are open still", x.arrive(1), false);
        due("arrive: none is done", x.seen(1, 1), 0);
        x.tick(1);
        due("arrive: the first is done", x.seen(1, 1), 1);
        due("arrive: room again", x.arrive(1), true);
        x.tick(1);
        due("arrive: nine again", x.arrive(1), false);
        due("arrive: in all", x.seen(1, 0), 10);
        due("arrive: the other", x.arrive(2), true);
        x.tick(29);
        due("arrive: 29 of 30", x.arrive(2), false);
        x.tick(1);
        due("arrive: 30 of 30", x.arrive(2), true);
        x.tick(2000);
        due("arrive: responses in order", x.ended(1, 1), 199);
        due("arrive: the ninth", x.ended(1, 8), 892);
        due("arrive: the tenth", x.ended(1, 9), 900);
    }

    private static void tick() {
        Counted x = new Counted();
        int[] others = {LEAST, -1, 0, 2001, MOST};
        for (int n : others) {
            dueThrow("tick(" + n + ")", IllegalArgumentException.class, () -> x.tick(n));
        }
        due("tick: nothing changed", x.now(), 0);
        due("tick: 2000", x.tick(2000), 0);
        due("tick: clock", x.now(), 2000);
        put(x, 7, 50, 50, 1, 3, 2);
        put(x, 2, 50, 50, 2, 4);
        x.arrive(7);
        due("tick: it begins", x.tick(1), 7);
        x.arrive(2);
        due("tick: to the end of its segment", x.tick(2), 7);
        due("tick: then the higher one", x.tick(1), 2);
        due("tick: and on", x.tick(4), 7);
        due("tick: to its end", x.tick(1), 7);
        due("tick: none", x.tick(1), 0);
        due("tick: clock at the end", x.now(), 2010);
        due("tick: response of 7", x.ended(7, 0), 9);
        due("tick: response of 2", x.ended(2, 0), 6);
        due("tick: a job that arrives runs in the next tick", x.arrive(7), false);
    }

    private static void now() {
        Counted x = twoTasks();
        due("now: 0", x.now(), 0);
        x.tick(7);
        x.tick(1);
        due("now: 8", x.now(), 8);
        x.arrive(1);
        x.tick(1);
        due("now: 9", x.now(), 9);
        for (int k = 0; k < 100; k++) {
            x.tick(2000);
        }
        due("now: much later", x.now(), 200009);
    }

    private static void ended() {
        Counted x = new Counted();
        put(x, 3, 1, 1, 1, 1);
        for (int k = 0; k < 202; k++) {
            x.arrive(3);
            x.tick(1);
        }
        due("ended: 0", x.ended(3, 0), 1);
        due("ended: 199", x.ended(3, 199), 1);
        due("ended: 200 is not noted", x.ended(3, 200), NONE);
        due("ended: all are counted", x.seen(3, 1), 202);
        due("ended: -1", x.ended(3, -1), NONE);
        due("ended: most", x.ended(3, MOST), NONE);
        due("ended: least", x.ended(3, LEAST), NONE);
        due("ended: other task", x.ended(1, 0), NONE);
        due("ended: id 0", x.ended(0, 0), NONE);
        due("ended: id 9", x.ended(9, 0), NONE);
        x.reset();
        due("ended: forgotten", x.ended(3, 0), NONE);
        x.clear();
        put(x, 3, 9, 9, 1, 2, 2);
        x.arrive(3);
        due("ended: not begun", x.ended(3, 0), NONE);
        x.tick(3);
        due("ended: not done", x.ended(3, 0), NONE);
        x.tick(1);
        due("ended: done", x.ended(3, 0), 4);
        due("ended: no job 1", x.ended(3, 1), NONE);
    }

    private static void seen() {
        Counted x = new Counted();
        put(x, 1, 50, 4, 1, 2, 2, 3);
        put(x, 2, 4, 4, 5, 1);
        put(x, 3, 50, 2, 4, 1, 1);
        dueSeen("seen: nothing", x, 1, 0, 0, 0, 0, 0, 0);
        x.arrive(1);
        dueSeen("seen: waits", x, 1, 1, 0, 0, 0, 0, 0);
        x.tick(1);
        dueSeen("seen: under way", x, 1, 1, 0, 0, 0, 0, 1);
        x.arrive(2);
        x.arrive(3);
        x.tick(1);
        dueSeen("seen: between segments", x, 1, 1, 0, 0, 0, 0, 0);
        x.tick(1);
        dueSeen("seen: interrupted", x, 1, 1, 0, 0, 1, 0, 0);
        dueSeen("seen: the higher one", x, 2, 1, 1, 2, 0, 0, 0);
        x.tick(2);
        dueSeen("seen: by a second one, but once", x, 1, 1, 0, 0, 1, 0, 0);
        dueSeen("seen: that missed its deadline", x, 3, 1, 1, 4, 0, 1, 0);
        x.tick(2);
        dueSeen("seen: the second segment", x, 1, 1, 0, 0, 1, 0, 0);
        x.tick(1);
        dueSeen("seen: goes on, not interrupted", x, 1, 1, 0, 0, 1, 0, 2);
        x.arrive(2);
        x.tick(2);
        dueSeen("seen: done is not interrupted", x, 1, 1, 1, 10, 1, 1, 0);
        x.tick(1);
        dueSeen("seen: done is not interrupted later", x, 1, 1, 1, 10, 1, 1, 0);
        dueSeen("seen: within the deadline", x, 2, 2, 2, 3, 0, 0, 0);
        int[] others = {LEAST, -1, 6, MOST};
        for (int odd : others) {
            due("seen: what " + odd, x.seen(1, odd), NONE);
            due("seen: id " + odd, x.seen(odd, 0), NONE);
        }
        due("seen: id 0", x.seen(0, 0), NONE);
        due("seen: id 9", x.seen(9, 5), NONE);
        due("seen: id 4", x.seen(4, 0), NONE);
    }

    public static void main(String[] args) {
        newObject();
        task();
        segment();
        clearAndReset();
        about();
        admit();
        response();
        longestBusy();
        job();
        tolerance();
        stretch();
        scenario();
        arrive();
        tick();
        now();
        ended();
        seen();
        finish("all promises hold");
    }
}
