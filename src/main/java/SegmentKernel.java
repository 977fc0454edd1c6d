/**
 * Tasks that can be interrupted only between their segments: their worst responses, the blocking
 * that they bear, and a kernel that runs their jobs. The words in capitals are those of DOC.md.
 */
public final class SegmentKernel {
    public static final int NONE = -1;

    private static final int MOST_TASKS = 8;
    private static final int MOST_SEGMENTS = 8;
    private static final int LONGEST_SEGMENT = 100;
    private static final int LONGEST_DISTANCE = 1000;
    private static final int DISTANCES_IN_DEADLINE = 8;
    private static final int HIGHEST_PRIORITY = 99;
    private static final int LONGEST_BUSY = 20000;
    private static final int MOST_OPEN_JOBS = 9;
    private static final int NOTED_JOBS = 200;
    private static final int MOST_TICKS = 2000;
    private static final int ADMITTED = 1;
    private static final int TOO_LONG_MARK = 100;
    private static final int FIRST_SEGMENT_ITEM = 10;
    private static final int UNKNOWN = -2;
    private static final int BEYOND_ALL = 1_000_000_000;
    // Far above the halvings that any range of times or blockings needs.
    private static final int MOST_HALVINGS = 64;

    private final TaskSet tasks;
    private final Analysis analysis;
    private final Kernel kernel;

    public SegmentKernel() {
        tasks = new TaskSet();
        analysis = new Analysis(tasks);
        kernel = new Kernel(tasks);
    }

    public boolean task(int id, int distance, int deadline, int priority) {
        return !kernel.hasJobs && tasks.add(id, distance, deadline, priority);
    }

    public boolean segment(int id, int length) {
        return !kernel.hasJobs && tasks.addSegment(id, length);
    }

    public void clear() {
        kernel.forgetJobs();
        tasks.forgetTasks();
    }

    public void reset() {
        kernel.forgetJobs();
    }

    public int about(int id, int what) {
        Task x = tasks.find(id);
        if (x == null) {
            return NONE;
        }
        switch (what) {
            case 0:
                return x.distance;
            case 1:
                return x.deadline;
            case 2:
                return x.priority;
            case 3:
                return x.segmentCount;
            case 4:
                return x.work;
            case 5:
                return tasks.blockingOf(x);
            default:
                return what < FIRST_SEGMENT_ITEM ? NONE : x.segmentAt(what - FIRST_SEGMENT_ITEM);
        }
    }

    public int admit() throws IllegalStateException {
        if (!tasks.isReady()) {
            throw new IllegalStateException();
        }
        return analysis.verdict();
    }

    public int response(int id) throws IndexOutOfBoundsException, IllegalStateException, ArithmeticException {
        return surveyedTask(id).worst;
    }

    public int job(int id, int k) throws IndexOutOfBoundsException, IllegalStateException, ArithmeticException {
        return analysis.responseOfJob(surveyedTask(id), k);
    }

    public int tolerance(int id) throws IndexOutOfBoundsException, IllegalStateException {
        return analysis.bearableBy(readyTask(id));
    }

    public int stretch() throws IllegalStateException {
        if (!tasks.isReady() || kernel.hasJobs || analysis.verdict() != ADMITTED) {
            throw new IllegalStateException();
        }
        return analysis.stretchTasks();
    }

    public int scenario(int id, int i, int what)
            throws IndexOutOfBoundsException, IllegalStateException, ArithmeticException {
        Task x = surveyedTask(id);
        if (i < 0 || what < 0 || what > 1) {
            return NONE;
        }
        return analysis.scenarioItem(x, i, what == 0);
    }

    public boolean arrive(int id) {
        Task x = tasks.find(id);
        return x != null && tasks.isReady() && kernel.accept(x);
    }

    public int tick(int n) throws IllegalArgumentException {
        if (n < 1 || n > MOST_TICKS) {
            throw new IllegalArgumentException();
        }
        return kernel.advance(n);
    }

    public int now() {
        return kernel.clock;
    }

    public int ended(int id, int k) {
        Task x = tasks.find(id);
        return x == null ? NONE : x.jobs.notedResponse(k);
    }

    public int seen(int id, int what) {
        Task x = tasks.find(id);
        if (x == null) {
            return NONE;
        }
        switch (what) {
            case 0:
                return x.jobs.arrived;
            case 1:
                return x.jobs.done;
            case 2:
                return x.jobs.greatest;
            case 3:
                return x.jobs.interrupted;
            case 4:
                return x.jobs.missed;
            case 5:
                return kernel.leftOf(x);
            default:
                return NONE;
        }
    }

    private Task readyTask(int id) {
        Task x = tasks.find(id);
        if (x == null) {
            throw new IndexOutOfBoundsException();
        }
        if (!tasks.isReady()) {
            throw new IllegalStateException();
        }
        return x;
    }

    private Task surveyedTask(int id) {
        Task x = readyTask(id);
        analysis.survey(x);
        if (x.isTooLong()) {
            throw new ArithmeticException();
        }
        return x;
    }

    /** What became of the jobs of one task in the kernel. */
    private static final class Jobs {
        // Job n stands at n modulo the length: only so many are open at once.
        private final int[] arrivals = new int[MOST_OPEN_JOBS];
        private final int[] noted = new int[NOTED_JOBS];
        int arrived;
        int done;
        int greatest;
        int interrupted;
        int missed;
        // Only the oldest open job can have begun, so one place for all of them is enough.
        int nextSegment;

        void forget() {
            arrived = 0;
            done = 0;
            greatest = 0;
            interrupted = 0;
            missed = 0;
            nextSegment = 0;
        }

        boolean hasOpen() {
            return done < arrived;
        }

        boolean accept(int time, int distance) {
            if (arrived - done >= MOST_OPEN_JOBS) {
                return false;
            }
            if (arrived > 0 && time - arrivals[(arrived - 1) % MOST_OPEN_JOBS] < distance) {
                return false;
            }
            arrivals[arrived % MOST_OPEN_JOBS] = time;
            arrived++;
            return true;
        }

        void finishOldest(int time, int deadline) {
            int response = time - arrivals[done % MOST_OPEN_JOBS];
            if (done < NOTED_JOBS) {
                noted[done] = response;
            }
            greatest = Math.max(greatest, response);
            if (response > deadline) {
                missed++;
            }
            done++;
            nextSegment = 0;
        }

        int notedResponse(int k) {
            return k < 0 || k >= done || k >= NOTED_JOBS ? NONE : noted[k];
        }
    }

    /** A task as it was told, and what was found out about it since the set last changed. */
    private static final class Task {
        final int id;
        final Jobs jobs = new Jobs();
        private final int[] segments = new int[MOST_SEGMENTS];
        int distance;
        int deadline;
        int priority;
        int segmentCount;
        int work;
        int rank;
        int worst = UNKNOWN;
        int critical;
        int responseCount;
        int bearable = UNKNOWN;

        Task(int id) {
            this.id = id;
            this.rank = id - 1;
        }

        void become(int newDistance, int newDeadline, int newPriority) {
            distance = newDistance;
            deadline = newDeadline;
            priority = newPriority;
            segmentCount = 0;
            work = 0;
        }

        boolean append(int length) {
            if (segmentCount >= MOST_SEGMENTS || length < 1 || length > LONGEST_SEGMENT) {
                return false;
            }
            segments[segmentCount] = length;
            segmentCount++;
            work += length;
            return true;
        }

        int segmentAt(int k) {
            return k < 0 || k >= segmentCount ? NONE : segments[k];
        }

        int longestSegment() {
            int longest = 0;
            for (int k = 0; k < segmentCount; k++) {
                longest = Math.max(longest, segments[k]);
            }
            return longest;
        }

        int lastSegment() {
            return segmentCount < 1 ? 0 : segments[segmentCount - 1];
        }

        int workAheadOf(int length) {
            int ahead = 0;
            for (int k = 0; k < segmentCount && segments[k] != length; k++) {
                ahead += segments[k];
            }
            return ahead;
        }

        /**
         * The last segment grows backwards over those ahead of it: by how many they became fewer.
         * In an admitted set it never shrinks: the higher tasks bear what it already is.
         */
        int growLast(int newLast) {
            int before = segmentCount;
            int ahead = work - newLast;
            int kept = 0;
            while (kept < before - 1 && segments[kept] <= ahead) {
                ahead -= segments[kept];
                kept++;
            }
            if (ahead > 0 && kept < before - 1) {
                segments[kept] = ahead;
                kept++;
            }
            segments[kept] = newLast;
            segmentCount = kept + 1;
            return before - segmentCount;
        }

        /** How many jobs have arrived at the time or before, if one comes at 0 and at each distance. */
        int arrivalsBy(int time) {
            return time < 0 || distance < 1 ? 0 : time / distance + 1;
        }

        void forgetFindings() {
            worst = UNKNOWN;
            bearable = UNKNOWN;
        }

        boolean isTooLong() {
            return worst == BEYOND_ALL;
        }
    }

    /** The tasks by their IDs and by their ranks, the highest at rank 0. */
    private static final class TaskSet {
        private final Task[] byId = new Task[MOST_TASKS];
        // Holds all objects at all times, those in use first: so no place is ever empty.
        final Task[] ranked = new Task[MOST_TASKS];
        int count;

        TaskSet() {
            for (int k = 0; k < MOST_TASKS; k++) {
                byId[k] = new Task(k + 1);
                ranked[k] = byId[k];
            }
        }

        Task find(int id) {
            if (id < 1 || id > MOST_TASKS) {
                return null;
            }
            Task x = byId[id - 1];
            return x.rank < count ? x : null;
        }

        boolean add(int id, int distance, int deadline, int priority) {
            if (id < 1 || id > MOST_TASKS || distance < 1 || distance > LONGEST_DISTANCE) {
                return false;
            }
            if (deadline < 1 || deadline > DISTANCES_IN_DEADLINE * distance) {
                return false;
            }
            if (priority < 0 || priority > HIGHEST_PRIORITY || hasPriority(priority) || find(id) != null) {
                return false;
            }
            byId[id - 1].become(distance, deadline, priority);
            place(byId[id - 1]);
            forgetFindings();
            return true;
        }

        boolean addSegment(int id, int length) {
            Task x = find(id);
            if (x == null || !x.append(length)) {
                return false;
            }
            forgetFindings();
            return true;
        }

        void forgetTasks() {
            count = 0;
        }

        void forgetFindings() {
            for (int rank = 0; rank < count; rank++) {
                ranked[rank].forgetFindings();
            }
        }

        boolean isReady() {
            for (int rank = 0; rank < count; rank++) {
                if (ranked[rank].segmentCount == 0) {
                    return false;
                }
            }
            return count > 0;
        }

        int longestBelow(Task x) {
            int longest = 0;
            for (int rank = x.rank + 1; rank < count; rank++) {
                longest = Math.max(longest, ranked[rank].longestSegment());
            }
            return longest;
        }

        int blockingOf(Task x) {
            return Math.max(0, longestBelow(x) - 1);
        }

        private boolean hasPriority(int priority) {
            for (int rank = 0; rank < count; rank++) {
                if (ranked[rank].priority == priority) {
                    return true;
                }
            }
            return false;
        }

        private void place(Task added) {
            swap(added.rank, count);
            for (int at = count; at > 0 && ranked[at - 1].priority < ranked[at].priority; at--) {
                swap(at - 1, at);
            }
            count++;
        }

        private void swap(int a, int b) {
            Task moved = ranked[a];
            ranked[a] = ranked[b];
            ranked[b] = moved;
            ranked[a].rank = a;
            ranked[b].rank = b;
        }
    }

    /**
     * The responses without running tick by tick. The busy time has no idle tick, so the last
     * segment of a job begins at the first time at which all work ahead of it, whatever the order
     * of that work was, fills the time up to there. That time grows with the blocking.
     */
    private static final class Analysis {
        private final TaskSet tasks;
        // What greatestWith() found beside its answer.
        private int greatestJob;
        private int jobCount;

        Analysis(TaskSet tasks) {
            this.tasks = tasks;
        }

        void survey(Task x) {
            if (x.worst != UNKNOWN) {
                return;
            }
            x.worst = greatestWith(x, tasks.blockingOf(x));
            x.critical = greatestJob;
            x.responseCount = jobCount;
        }

        int verdict() {
            for (int rank = 0; rank < tasks.count; rank++) {
                Task x = tasks.ranked[rank];
                survey(x);
                if (x.isTooLong()) {
                    return -x.id - TOO_LONG_MARK;
                }
                if (x.worst > x.deadline) {
                    return -x.id;
                }
            }
            return ADMITTED;
        }

        int responseOfJob(Task x, int k) {
            if (k < 0 || k >= x.responseCount) {
                return NONE;
            }
            return lastBegin(x, tasks.blockingOf(x), k, 0) + x.lastSegment() - k * x.distance;
        }

        int bearableBy(Task x) {
            if (x.bearable == UNKNOWN) {
                x.bearable = greatestBorne(x);
            }
            return x.bearable;
        }

        int stretchTasks() {
            int fewer = 0;
            int limit = BEYOND_ALL;
            for (int rank = 0; rank < tasks.count; rank++) {
                Task x = tasks.ranked[rank];
                fewer += x.growLast(Math.min(x.work, limit));
                limit = Math.min(limit, greatestBorne(x) + 1);
            }
            tasks.forgetFindings();
            return fewer;
        }

        int scenarioItem(Task x, int i, boolean wantsTime) {
            int place = i;
            int start = 0;
            if (tasks.blockingOf(x) > 0) {
                int length = tasks.longestBelow(x);
                Task blocker = highestBelowWith(x, length);
                if (i == 0) {
                    return wantsTime ? 0 : blocker.id;
                }
                place = i - 1;
                start = blocker.workAheadOf(length) + 1;
            }
            int span = x.critical * x.distance + x.worst;
            if (place >= scenarioArrivalsBy(x, span - 1)) {
                return NONE;
            }
            int time = timeOfArrival(x, place, span);
            return wantsTime ? start + time : taskOfArrival(x, place, time);
        }

        private Task highestBelowWith(Task x, int length) {
            for (int rank = x.rank + 1; rank < tasks.count; rank++) {
                if (tasks.ranked[rank].longestSegment() == length) {
                    return tasks.ranked[rank];
                }
            }
            return x;
        }

        private int ownArrivalsBy(Task x, int time) {
            return Math.min(x.critical + 1, x.arrivalsBy(time));
        }

        private int scenarioArrivalsBy(Task x, int time) {
            int arrivals = ownArrivalsBy(x, time);
            for (int rank = 0; rank < x.rank; rank++) {
                arrivals += tasks.ranked[rank].arrivalsBy(time);
            }
            return arrivals;
        }

        private int timeOfArrival(Task x, int place, int span) {
            int low = 0;
            int high = span - 1;
            for (int round = 0; round < MOST_HALVINGS && low < high; round++) {
                int middle = (low + high) / 2;
                if (scenarioArrivalsBy(x, middle) > place) {
                    high = middle;
                } else {
                    low = middle + 1;
                }
            }
            return low;
        }

        private int taskOfArrival(Task x, int place, int time) {
            int passed = scenarioArrivalsBy(x, time - 1);
            for (int rank = 0; rank < x.rank; rank++) {
                Task higher = tasks.ranked[rank];
                passed += higher.arrivalsBy(time) - higher.arrivalsBy(time - 1);
                if (passed > place) {
                    return higher.id;
                }
            }
            return x.id;
        }

        /** Bearing can only be lost as the blocking grows, so halving finds the last one borne. */
        private int greatestBorne(Task x) {
            int borne = NONE;
            int refused = Math.max(0, x.deadline - x.work + 1);
            for (int round = 0; round < MOST_HALVINGS && refused - borne > 1; round++) {
                int middle = (borne + refused) / 2;
                if (greatestWith(x, middle) <= x.deadline) {
                    borne = middle;
                } else {
                    refused = middle;
                }
            }
            return borne;
        }

        /** The greatest response with a blocking, beyond all deadlines if the set is too long. */
        private int greatestWith(Task x, int blocking) {
            int busy = busyWith(x, blocking);
            int greatest = 0;
            int begin = 0;
            greatestJob = 0;
            jobCount = busy > LONGEST_BUSY ? 0 : x.arrivalsBy(busy - 1);
            for (int k = 0; k < jobCount; k++) {
                begin = lastBegin(x, blocking, k, begin);
                int response = begin + x.lastSegment() - k * x.distance;
                if (response > greatest) {
                    greatest = response;
                    greatestJob = k;
                }
            }
            return jobCount == 0 ? BEYOND_ALL : greatest;
        }

        /** The end of the busy time, or something above the longest if it is too long. */
        private int busyWith(Task x, int blocking) {
            int end = blocking + 1;
            for (int round = 0; round <= LONGEST_BUSY && end <= LONGEST_BUSY; round++) {
                int filled = blocking + x.arrivalsBy(end - 1) * x.work + higherWorkBy(x, end - 1);
                if (filled <= end) {
                    return end;
                }
                end = filled;
            }
            return LONGEST_BUSY + 1;
        }

        /** When the last segment of job k begins; not before the time that is given. */
        private int lastBegin(Task x, int blocking, int k, int notBefore) {
            int own = blocking + (k + 1) * x.work - x.lastSegment();
            int begin = notBefore;
            for (int round = 0; round <= LONGEST_BUSY; round++) {
                int filled = own + higherWorkBy(x, begin);
                if (filled <= begin) {
                    return begin;
                }
                begin = filled;
            }
            return begin;
        }

        private int higherWorkBy(Task x, int time) {
            int sum = 0;
            for (int rank = 0; rank < x.rank; rank++) {
                Task higher = tasks.ranked[rank];
                sum += higher.arrivalsBy(time) * higher.work;
            }
            return sum;
        }
    }

    /** Runs the jobs that arrive; between two calls none arrives, so it goes on in whole pieces. */
    private static final class Kernel {
        private final TaskSet tasks;
        boolean hasJobs;
        int clock;
        private int left;
        private Task running;
        // The task whose segment ended last, as long as nothing has begun since and its job is not done.
        private Task paused;

        Kernel(TaskSet tasks) {
            this.tasks = tasks;
        }

        void forgetJobs() {
            for (int rank = 0; rank < tasks.count; rank++) {
                tasks.ranked[rank].jobs.forget();
            }
            hasJobs = false;
            clock = 0;
            left = 0;
            running = null;
            paused = null;
        }

        boolean accept(Task x) {
            if (!x.jobs.accept(clock, x.distance)) {
                return false;
            }
            hasJobs = true;
            return true;
        }

        int leftOf(Task x) {
            return x == running ? left : 0;
        }

        int advance(int n) {
            int had = 0;
            int rest = n;
            for (int round = 0; round < n && rest > 0; round++) {
                if (running == null) {
                    beginSegment();
                }
                if (running == null) {
                    clock += rest;
                    return 0;
                }
                had = running.id;
                int piece = Math.min(left, rest);
                rest -= piece;
                run(running, piece);
            }
            return had;
        }

        private void run(Task x, int piece) {
            clock += piece;
            left -= piece;
            if (left == 0) {
                endSegment(x);
            }
        }

        private void beginSegment() {
            Task next = highestWithJob();
            if (next == null) {
                return;
            }
            if (paused != null && paused != next) {
                paused.jobs.interrupted++;
            }
            paused = null;
            running = next;
            left = next.segmentAt(next.jobs.nextSegment);
        }

        private void endSegment(Task x) {
            running = null;
            x.jobs.nextSegment++;
            if (x.jobs.nextSegment < x.segmentCount) {
                paused = x;
            } else {
                x.jobs.finishOldest(clock, x.deadline);
            }
        }

        private Task highestWithJob() {
            for (int rank = 0; rank < tasks.count; rank++) {
                if (tasks.ranked[rank].jobs.hasOpen()) {
                    return tasks.ranked[rank];
                }
            }
            return null;
        }
    }
}
