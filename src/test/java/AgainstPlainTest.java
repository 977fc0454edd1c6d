import java.util.Random;

/** Runs of calls, the same ones each time, on SegmentKernel and on PlainKernel: all answers agree. */
public final class AgainstPlainTest {
    private static final int[] ODD = {Integer.MIN_VALUE, -1, 0, 9, 10, Integer.MAX_VALUE};
    private static int wrong;

    private interface Call {
        int get();
    }

    private static long answer(Call c) {
        try {
            return c.get();
        } catch (IndexOutOfBoundsException e) {
            return 10_000_000_001L;
        } catch (IllegalStateException e) {
            return 10_000_000_002L;
        } catch (ArithmeticException e) {
            return 10_000_000_003L;
        } catch (IllegalArgumentException e) {
            return 10_000_000_004L;
        } catch (RuntimeException e) {
            return 10_000_000_005L;
        }
    }

    private static int bit(boolean b) {
        return b ? 1 : 0;
    }

    /** One run: a set of one size of numbers, questions about it, jobs, changes. */
    private static final class Run {
        final int number;
        final Random dice;
        final int longestDistance;
        final int longestSegment;
        final boolean smallEnoughToTolerate;
        final Replayed x = new Replayed();
        final PlainKernel y = new PlainKernel();

        Run(int number, int longestDistance, int longestSegment, boolean tolerate) {
            this.number = number;
            this.dice = new Random(number);
            this.longestDistance = longestDistance;
            this.longestSegment = longestSegment;
            this.smallEnoughToTolerate = tolerate;
        }

        void same(String call, Call mine, Call plain) {
            long got = answer(mine);
            long due = answer(plain);
            if (got != due) {
                wrong++;
                System.out.println("run " + number + ": " + call + " answered " + got + ", due is " + due);
            }
        }

        int upTo(int n) {
            return 1 + dice.nextInt(n);
        }

        int someId() {
            return dice.nextInt(20) == 0 ? ODD[dice.nextInt(ODD.length)] : upTo(8);
        }

        void addTask() {
            int id = someId();
            int distance = dice.nextInt(15) == 0 ? dice.nextInt(1003) : upTo(longestDistance);
            int deadline = dice.nextInt(8 * Math.max(1, distance) + 2);
            int priority = dice.nextInt(20) == 0 ? 98 + dice.nextInt(4) : dice.nextInt(20) - bit(dice.nextInt(30) == 0);
            same("task(" + id + ", " + distance + ", " + deadline + ", " + priority + ")",
                () -> bit(x.task(id, distance, deadline, priority)), () -> bit(y.task(id, distance, deadline, priority)));
            int segments = dice.nextInt(6) == 0 ? dice.nextInt(10) : upTo(3);
            for (int k = 0; k < segments; k++) {
                addSegment(id);
            }
        }

        /** A set that keeps its deadlines as often as not: little work, the shorter distance higher. */
        void addFairSet() {
            int count = upTo(7) + 1;
            for (int id = 1; id <= count; id++) {
                int i = id;
                int distance = 8 + dice.nextInt(longestDistance);
                int deadline = Math.max(1, distance * (6 + dice.nextInt(dice.nextBoolean() ? 74 : 6)) / 10);
                int priority = 10 * (8 - Math.min(7, 8 * distance / (longestDistance + 8))) + id;
                same("task(" + i + ", " + distance + ", " + deadline + ", " + priority + ")",
                    () -> bit(x.task(i, distance, deadline, priority)), () -> bit(y.task(i, distance, deadline, priority)));
                int work = Math.max(1, distance * (50 + dice.nextInt(60)) / 100 / count);
                int cuts = upTo(8);
                for (int k = 0; k < 8 && work > 0; k++) {
                    int length = k == cuts - 1 || k == 7 ? Math.min(100, work) : Math.min(100, upTo(Math.max(1, work / 2)));
                    work -= length;
                    same("segment(" + i + ", " + length + ")",
                        () -> bit(x.segment(i, length)), () -> bit(y.segment(i, length)));
                }
            }
        }

        /** The scenario of an admitted set makes the worst in the kernel. */
        void playScenario(int id) {
            if (answer(() -> x.admit()) != 1 || x.about(id, 0) == SegmentKernel.NONE) {
                return;
            }
            Replayed twin = x.twin();
            int most = (twin.callsToSpare() - 10) / 2;
            int own = 0;
            int i = 0;
            for (; i < most && x.scenario(id, i, 0) != SegmentKernel.NONE; i++) {
                own += bit(x.scenario(id, i, 1) == id);
                arriveAt(twin, x.scenario(id, i, 0), x.scenario(id, i, 1));
            }
            if (i == most) {
                return;
            }
            twin.tick(2000);
            int critical = own - 1;
            same("ended(" + id + ", " + critical + ") after its scenario", () -> twin.ended(id, critical), () -> x.response(id));
            same("seen(" + id + ", 2) after its scenario", () -> twin.seen(id, 2), () -> x.response(id));
        }

        void arriveAt(Replayed twin, int time, int id) {
            int wait = time - twin.now();
            if (wait > 0) {
                twin.tick(wait);
            }
            same("arrive(" + id + ") of a scenario", () -> bit(twin.arrive(id)), () -> 1);
        }

        void addSegment(int id) {
            int length = dice.nextInt(25) == 0 ? 101 * dice.nextInt(2) : upTo(longestSegment);
            same("segment(" + id + ", " + length + ")", () -> bit(x.segment(id, length)), () -> bit(y.segment(id, length)));
        }

        void compareTasks() {
            for (int id = 0; id <= 9; id++) {
                int i = id;
                for (int what = -1; what <= 19; what++) {
                    int w = what;
                    same("about(" + i + ", " + w + ")", () -> x.about(i, w), () -> y.about(i, w));
                }
                for (int what = -1; what <= 6; what++) {
                    int w = what;
                    same("seen(" + i + ", " + w + ")", () -> x.seen(i, w), () -> y.seen(i, w));
                }
            }
            same("now()", () -> x.now(), () -> y.now());
        }

        void compareResponses() {
            same("admit()", () -> x.admit(), () -> y.admit());
            for (int id = 0; id <= 9; id++) {
                int i = id;
                same("response(" + i + ")", () -> x.response(i), () -> y.response(i));
                if (smallEnoughToTolerate) {
                    same("tolerance(" + i + ")", () -> x.tolerance(i), () -> y.tolerance(i));
                }
            }
        }

        void compareJobs(int id) {
            for (int k = -1; k <= 12; k++) {
                int j = k;
                same("job(" + id + ", " + j + ")", () -> x.job(id, j), () -> y.job(id, j));
            }
            for (int k = -1; k <= 30; k++) {
                int j = k;
                int what = k % 9 == 8 ? 2 * dice.nextInt(2) - 1 + dice.nextInt(2) : dice.nextInt(2);
                same("scenario(" + id + ", " + j + ", " + what + ")",
                    () -> x.scenario(id, j, what), () -> y.scenario(id, j, what));
            }
        }

        void runJobs(int steps) {
            for (int step = 0; step < steps; step++) {
                int id = someId();
                same("arrive(" + id + ")", () -> bit(x.arrive(id)), () -> bit(y.arrive(id)));
                if (dice.nextInt(3) > 0) {
                    int n = dice.nextInt(40) == 0 ? ODD[dice.nextInt(3)] : upTo(1 + longestSegment);
                    same("tick(" + n + ")", () -> x.tick(n), () -> y.tick(n));
                }
                int k = dice.nextInt(8) - 1;
                same("ended(" + id + ", " + k + ")", () -> x.ended(id, k), () -> y.ended(id, k));
                int what = dice.nextInt(8) - 1;
                same("seen(" + id + ", " + what + ")", () -> x.seen(id, what), () -> y.seen(id, what));
            }
        }

        void compareAll() {
            compareTasks();
            compareResponses();
            compareJobs(upTo(8));
            compareJobs(upTo(8));
        }

        void playFair() {
            addFairSet();
            play();
        }

        void playWild() {
            int count = upTo(4) + upTo(4);
            for (int k = 0; k < count; k++) {
                addTask();
            }
            play();
        }

        void play() {
            compareAll();
            playScenario(upTo(8));
            playScenario(upTo(3));
            if (smallEnoughToTolerate) {
                same("stretch()", () -> x.stretch(), () -> y.stretch());
                compareAll();
                addSegment(someId());
                same("stretch()", () -> x.stretch(), () -> y.stretch());
            }
            runJobs(60);
            addTask();
            same("stretch()", () -> x.stretch(), () -> y.stretch());
            compareAll();
            if (dice.nextBoolean()) {
                x.reset();
                y.reset();
            } else {
                x.clear();
                y.clear();
            }
            compareTasks();
            addTask();
            runJobs(10);
            compareAll();
        }
    }

    public static void main(String[] args) {
        for (int number = 0; number < 30; number++) {
            new Run(number, 12, 2, true).playWild();
            new Run(1000 + number, 40, 5, true).playWild();
            new Run(2000 + number, 1000, 100, false).playWild();
        }
        for (int number = 0; number < 100; number++) {
            new Run(3000 + number, 20, 4, true).playFair();
            new Run(4000 + number, 60, 10, true).playFair();
            new Run(5000 + number, 700, 60, false).playFair();
        }
        for (int number = 0; number < 20; number++) {
            new Run(6000 + number, 300, 60, true).playFair();
        }
        System.out.println(wrong == 0 ? "all answers agree" : wrong + " answers differ");
        if (wrong != 0) {
            System.exit(1);
        }
    }
}
