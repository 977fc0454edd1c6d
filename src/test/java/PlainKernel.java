import java.util.ArrayList;
import java.util.Comparator;
import java.util.HashMap;
import java.util.List;
import java.util.Map;

/** The document once more, word by word and tick by tick, slow: what SegmentKernel is held against. */
final class PlainKernel {
    static final int NONE = -1;

    private static final class Task {
        int id;
        int distance;
        int deadline;
        int priority;
        List<Integer> segments = new ArrayList<>();
        List<Job> jobs = new ArrayList<>();
        int interrupted;

        int work() {
            int sum = 0;
            for (int s : segments) {
                sum += s;
            }
            return sum;
        }
    }

    private static final class Job {
        final Task task;
        final int arrival;
        int next;
        int response = NONE;

        Job(Task task, int arrival) {
            this.task = task;
            this.arrival = arrival;
        }

        boolean done() {
            return next == task.segments.size() && response != NONE;
        }
    }

    private final List<Task> tasks = new ArrayList<>();
    // The same question is asked often; an answer holds until the set changes.
    private final Map<String, List<Integer>> known = new HashMap<>();
    private int clock;
    private boolean arrived;
    private Job under;
    private Job lastEnded;
    private int left;

    private static final Comparator<Task> HIGHEST_FIRST = (a, b) -> b.priority - a.priority;

    private Task find(int id) {
        for (Task t : tasks) {
            if (t.id == id) {
                return t;
            }
        }
        return null;
    }

    private boolean ready() {
        for (Task t : tasks) {
            if (t.segments.isEmpty()) {
                return false;
            }
        }
        return !tasks.isEmpty();
    }

    boolean task(int id, int distance, int deadline, int priority) {
        boolean told = id >= 1 && id <= 8 && distance >= 1 && distance <= 1000
            && deadline >= 1 && (long) deadline <= 8L * distance && priority >= 0 && priority <= 99;
        if (!told || arrived) {
            return false;
        }
        for (Task t : tasks) {
            if (t.id == id || t.priority == priority) {
                return false;
            }
        }
        Task t = new Task();
        t.id = id;
        t.distance = distance;
        t.deadline = deadline;
        t.priority = priority;
        tasks.add(t);
        tasks.sort(HIGHEST_FIRST);
        known.clear();
        return true;
    }

    boolean segment(int id, int length) {
        Task t = find(id);
        if (t == null || t.segments.size() == 8 || length < 1 || length > 100 || arrived) {
            return false;
        }
        t.segments.add(length);
        known.clear();
        return true;
    }

    void clear() {
        reset();
        tasks.clear();
        known.clear();
    }

    void reset() {
        for (Task t : tasks) {
            t.jobs.clear();
            t.interrupted = 0;
        }
        clock = 0;
        arrived = false;
        under = null;
        lastEnded = null;
        left = 0;
    }

    private int longestBelow(Task x) {
        int longest = 0;
        for (Task t : tasks) {
            if (t.priority < x.priority) {
                for (int s : t.segments) {
                    longest = Math.max(longest, s);
                }
            }
        }
        return longest;
    }

    private int blocking(Task x) {
        int longest = longestBelow(x);
        return longest == 0 ? 0 : longest - 1;
    }

    int about(int id, int what) {
        Task t = find(id);
        if (t == null) {
            return NONE;
        }
        if (what >= 10 && what - 10 < t.segments.size()) {
            return t.segments.get(what - 10);
        }
        int[] items = {t.distance, t.deadline, t.priority, t.segments.size(), t.work(), blocking(t)};
        return what >= 0 && what < items.length ? items[what] : NONE;
    }

    /** The RESPONSES of x with a blocking, null if TOO LONG. */
    private List<Integer> responses(Task x, int blocking) {
        String question = x.id + " with " + blocking;
        if (!known.containsKey(question)) {
            known.put(question, runResponses(x, blocking));
        }
        return known.get(question);
    }

    private List<Integer> runResponses(Task x, int blocking) {
        List<List<Job>> queues = new ArrayList<>();
        List<Task> involved = new ArrayList<>();
        for (Task t : tasks) {
            if (t.priority >= x.priority) {
                involved.add(t);
                queues.add(new ArrayList<>());
            }
        }
        List<Integer> found = new ArrayList<>();
        Job running = null;
        int rest = 0;
        for (int t = 0; t <= 20000; t++) {
            boolean empty = true;
            for (List<Job> q : queues) {
                empty &= q.isEmpty();
            }
            if (t > 0 && t >= blocking && empty) {
                return found;
            }
            for (int k = 0; k < involved.size(); k++) {
                if (t % involved.get(k).distance == 0) {
                    queues.get(k).add(new Job(involved.get(k), t));
                }
            }
            if (t < blocking) {
                continue;
            }
            if (running == null) {
                for (List<Job> q : queues) {
                    if (!q.isEmpty()) {
                        running = q.get(0);
                        rest = running.task.segments.get(running.next);
                        break;
                    }
                }
            }
            rest--;
            if (rest == 0) {
                running.next++;
                if (running.next == running.task.segments.size()) {
                    queues.get(involved.indexOf(running.task)).remove(0);
                    if (running.task == x) {
                        found.add(t + 1 - running.arrival);
                    }
                }
                running = null;
            }
        }
        return null;
    }

    private static int greatest(List<Integer> responses) {
        int g = 0;
        for (int r : responses) {
            g = Math.max(g, r);
        }
        return g;
    }

    private boolean bears(Task x, int blocking) {
        List<Integer> r = responses(x, blocking);
        return r != null && greatest(r) <= x.deadline;
    }

    private int toleranceOf(Task x) {
        int best = NONE;
        for (int b = 0; b <= x.deadline && bears(x, b); b++) {
            best = b;
        }
        return best;
    }

    int admit() {
        if (!ready()) {
            throw new IllegalStateException();
        }
        for (Task x : tasks) {
            List<Integer> r = responses(x, blocking(x));
            if (r == null) {
                return -x.id - 100;
            }
            if (greatest(r) > x.deadline) {
                return -x.id;
            }
        }
        return 1;
    }

    private Task readyTask(int id) {
        if (find(id) == null) {
            throw new IndexOutOfBoundsException();
        }
        if (!ready()) {
            throw new IllegalStateException();
        }
        return find(id);
    }

    private List<Integer> knownResponses(int id) {
        Task x = readyTask(id);
        List<Integer> r = responses(x, blocking(x));
        if (r == null) {
            throw new ArithmeticException();
        }
        return r;
    }

    int response(int id) {
        return greatest(knownResponses(id));
    }

    int job(int id, int k) {
        List<Integer> r = knownResponses(id);
        return k >= 0 && k < r.size() ? r.get(k) : NONE;
    }

    int tolerance(int id) {
        return toleranceOf(readyTask(id));
    }

    int stretch() {
        if (!ready() || admit() != 1 || arrived) {
            throw new IllegalStateException();
        }
        int before = 0;
        int after = 0;
        for (Task x : tasks) {
            int limit = Integer.MAX_VALUE;
            for (Task h : tasks) {
                if (h.priority > x.priority) {
                    limit = Math.min(limit, toleranceOf(h) + 1);
                }
            }
            int last = Math.min(x.work(), limit);
            before += x.segments.size();
            x.segments = cut(x.segments, x.work() - last, last);
            known.clear();
            after += x.segments.size();
        }
        return before - after;
    }

    /** Tick by tick: which segment each tick ahead of the new last one belongs to. */
    private static List<Integer> cut(List<Integer> old, int ahead, int last) {
        List<Integer> made = new ArrayList<>();
        int at = 0;
        for (int s : old) {
            int kept = 0;
            for (int t = 0; t < s; t++, at++) {
                if (at < ahead) {
                    kept++;
                }
            }
            if (kept > 0) {
                made.add(kept);
            }
        }
        made.add(last);
        return made;
    }

    private List<int[]> scenarioOf(Task x, List<Integer> r) {
        int worst = greatest(r);
        int critical = r.indexOf(worst);
        List<int[]> told = new ArrayList<>();
        int start = 0;
        if (blocking(x) > 0) {
            int longest = longestBelow(x);
            for (Task t : tasks) {
                if (t.priority < x.priority && t.segments.contains(longest)) {
                    told.add(new int[] {0, t.id});
                    start = 1;
                    for (int s : t.segments) {
                        if (s == longest) {
                            break;
                        }
                        start += s;
                    }
                    break;
                }
            }
        }
        int end = start + critical * x.distance + worst;
        for (int t = start; t < end; t++) {
            for (Task h : tasks) {
                boolean comes = (t - start) % h.distance == 0;
                boolean counts = h.priority > x.priority || h == x && (t - start) / h.distance <= critical;
                if (comes && counts) {
                    told.add(new int[] {t, h.id});
                }
            }
        }
        return told;
    }

    int scenario(int id, int i, int what) {
        List<Integer> r = knownResponses(id);
        List<int[]> told = scenarioOf(find(id), r);
        return i < 0 || i >= told.size() || what < 0 || what > 1 ? NONE : told.get(i)[what];
    }

    private static List<Job> open(Task t) {
        List<Job> list = new ArrayList<>();
        for (Job j : t.jobs) {
            if (!j.done()) {
                list.add(j);
            }
        }
        return list;
    }

    boolean arrive(int id) {
        Task t = find(id);
        if (t == null || !ready() || open(t).size() == 9) {
            return false;
        }
        if (!t.jobs.isEmpty() && clock - t.jobs.get(t.jobs.size() - 1).arrival < t.distance) {
            return false;
        }
        t.jobs.add(new Job(t, clock));
        arrived = true;
        return true;
    }

    int tick(int n) {
        if (n < 1 || n > 2000) {
            throw new IllegalArgumentException();
        }
        int had = 0;
        for (int k = 0; k < n; k++) {
            had = oneTick();
        }
        return had;
    }

    private int oneTick() {
        if (under == null) {
            for (Task t : tasks) {
                if (!open(t).isEmpty()) {
                    under = open(t).get(0);
                    left = t.segments.get(under.next);
                    if (lastEnded != null && !lastEnded.done() && lastEnded != under) {
                        lastEnded.task.interrupted++;
                    }
                    break;
                }
            }
        }
        clock++;
        if (under == null) {
            return 0;
        }
        int had = under.task.id;
        left--;
        if (left == 0) {
            under.next++;
            if (under.next == under.task.segments.size()) {
                under.response = clock - under.arrival;
            }
            lastEnded = under;
            under = null;
        }
        return had;
    }

    int now() {
        return clock;
    }

    int ended(int id, int k) {
        Task t = find(id);
        if (t == null || k < 0 || k >= t.jobs.size() || k >= 200) {
            return NONE;
        }
        return t.jobs.get(k).response;
    }

    int seen(int id, int what) {
        Task t = find(id);
        if (t == null || what < 0 || what > 5) {
            return NONE;
        }
        int done = 0;
        int top = 0;
        int missed = 0;
        for (Job j : t.jobs) {
            if (j.done()) {
                done++;
                top = Math.max(top, j.response);
                missed += j.response > t.deadline ? 1 : 0;
            }
        }
        int own = under != null && under.task == t ? left : 0;
        return new int[] {t.jobs.size(), done, top, t.interrupted, missed, own}[what];
    }
}
