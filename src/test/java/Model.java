import java.util.ArrayList;
import java.util.Comparator;
import java.util.List;
import java.util.NoSuchElementException;

/**
 * The document once more, in another way: it keeps every job, tick and change for good, and finds
 * responses by trying every span, so that it shares no shortcut with the program.
 */
final class Model {
    static final class Job {
        int released;
        int demand;
        int charged;
        int ended = -1;

        boolean pending() {
            return ended == -1;
        }
    }

    static final class Known {
        int id;
        int period;
        int deadline;
        int low;
        int high;
        boolean leaving;
        int dropped;
        final List<Job> jobs = new ArrayList<>();

        boolean isHigh() {
            return high != 0;
        }

        List<Job> pending() {
            List<Job> some = new ArrayList<>();
            for (Job job : jobs) {
                if (job.pending()) {
                    some.add(job);
                }
            }
            return some;
        }
    }

    private List<Known> plan = new ArrayList<>();
    private List<Known> order = new ArrayList<>();
    private List<int[]> witness = new ArrayList<>();
    private final List<Integer> ran = new ArrayList<>();
    private final List<Integer> changes = new ArrayList<>();
    private boolean high;
    private int givenUp;

    int add(int id, int period, int deadline, int low, int high) {
        if (id < 1 || id > 12 || period < 1 || period > 1000 || deadline < 1 || deadline > period
                || low < 1 || low > 100 || (high != 0 && (high < low || high > 200))) {
            throw new IllegalArgumentException();
        }
        if (find(plan, id) != null) {
            throw new IllegalStateException();
        }
        Known task = new Known();
        task.id = id;
        task.period = period;
        task.deadline = deadline;
        task.low = low;
        task.high = high;
        List<Known> with = new ArrayList<>(plan);
        int place = 0;
        for (int i = 0; i < with.size(); i++) {
            if (with.get(i).deadline <= deadline) {
                place = i + 1;
            }
        }
        with.add(place, task);
        for (int i = 0; i < with.size(); i++) {
            if (lowResponse(with.get(i), with.subList(0, i)) < 0) {
                witness = releases(with.subList(0, i + 1), with.get(i).deadline);
                return with.get(i).id;
            }
        }
        for (int i = 0; i < with.size(); i++) {
            if (with.get(i).isHigh() && bound(with.get(i), with.subList(0, i)) < 0) {
                return -with.get(i).id;
            }
        }
        plan = with;
        return 0;
    }

    boolean remove(int id) {
        Known task = need(plan, id);
        if (task.leaving) {
            throw new IllegalStateException();
        }
        task.leaving = true;
        forget();
        return find(plan, id) == null;
    }

    int release(int id, int demand) {
        Known task = need(order, id);
        if (demand < 1 || demand > Math.max(task.low, task.high)) {
            throw new IllegalArgumentException();
        }
        if (task.leaving || time() < next(task) || task.pending().size() == 4) {
            throw new IllegalStateException();
        }
        if (high && !task.isHigh()) {
            task.dropped++;
            return 0;
        }
        Job job = new Job();
        job.released = time();
        job.demand = demand;
        task.jobs.add(job);
        return task.jobs.size();
    }

    int tick() {
        for (Known task : order) {
            if (!task.pending().isEmpty()) {
                ran.add(task.id);
                charge(task, task.pending().get(0));
                forget();
                return task.id;
            }
        }
        ran.add(0);
        high = false;
        order = new ArrayList<>(plan);
        return 0;
    }

    int run(int n) {
        if (n < 0 || n > 1000) {
            throw new IllegalArgumentException();
        }
        int idle = 0;
        for (int i = 0; i < n; i++) {
            idle += tick() == 0 ? 1 : 0;
        }
        return idle;
    }

    boolean assign() {
        List<Known> left = new ArrayList<>(plan);
        List<Known> found = new ArrayList<>();
        while (!left.isEmpty()) {
            Known last = null;
            for (Known task : left) {
                List<Known> others = new ArrayList<>(left);
                others.remove(task);
                if (lowResponse(task, others) > 0 && (!task.isHigh() || bound(task, others) > 0)) {
                    last = task;
                }
            }
            if (last == null) {
                return false;
            }
            left.remove(last);
            found.add(0, last);
        }
        plan = found;
        return true;
    }

    int response(int id, int what) {
        Known task = need(plan, id);
        List<Known> ahead = plan.subList(0, plan.indexOf(task));
        switch (what) {
            case 0: return lowResponse(task, ahead);
            case 1: return task.isHigh() ? bound(task, ahead) : -1;
            default: throw new IllegalArgumentException();
        }
    }

    int ended(int id, int job) {
        Known task = need(plan, id);
        if (job < 1 || job > task.jobs.size() || job <= task.jobs.size() - 8) {
            throw new NoSuchElementException();
        }
        return task.jobs.get(job - 1).ended;
    }

    int about(int id, int what) {
        Known task = need(plan, id);
        switch (what) {
            case 0: return order.indexOf(task);
            case 1: return plan.indexOf(task);
            case 2: return task.pending().size();
            case 3: return task.jobs.size();
            case 4: return task.dropped;
            case 5: return task.jobs.stream().mapToInt(job -> job.charged).sum();
            case 6: return next(task);
            case 7: return task.leaving ? 1 : 0;
            case 8: return late(task);
            default: throw new IllegalArgumentException();
        }
    }

    int witness(int i, int what) {
        if (i < 0 || i >= witness.size()) {
            throw new NoSuchElementException();
        }
        if (what != 0 && what != 1) {
            throw new IllegalArgumentException();
        }
        return witness.get(i)[what];
    }

    int trace(int k) {
        if (k < 0 || k > 255 || k >= ran.size()) {
            throw new NoSuchElementException();
        }
        return ran.get(ran.size() - 1 - k);
    }

    int changed(int k) {
        if (k < 0 || k > 7 || k >= changes.size()) {
            throw new NoSuchElementException();
        }
        return changes.get(changes.size() - 1 - k);
    }

    int count(int what) {
        switch (what) {
            case 0: return time();
            case 1: return (int) ran.stream().filter(id -> id == 0).count();
            case 2: return high ? 1 : 0;
            case 3: return changes.size();
            case 4: return plan.size();
            case 5: return order.size();
            case 6: return plan.stream().mapToInt(task -> task.pending().size()).sum();
            case 7: return givenUp;
            case 8: return time() - 1 - ran.lastIndexOf(0);
            default: throw new IllegalArgumentException();
        }
    }

    boolean isInForce(int id) {
        return find(order, id) != null;
    }

    Known known(int id) {
        return need(plan, id);
    }

    int jobsOf(int id) {
        Known task = find(plan, id);
        return task == null ? 0 : task.jobs.size();
    }

    private int time() {
        return ran.size();
    }

    private static Known find(List<Known> some, int id) {
        for (Known task : some) {
            if (task.id == id) {
                return task;
            }
        }
        return null;
    }

    private static Known need(List<Known> some, int id) {
        Known task = find(some, id);
        if (task == null) {
            throw new NoSuchElementException();
        }
        return task;
    }

    private static int next(Known task) {
        return task.jobs.isEmpty() ? 0 : task.jobs.get(task.jobs.size() - 1).released + task.period;
    }

    private int late(Known task) {
        int late = 0;
        for (Job job : task.jobs) {
            int end = job.pending() ? time() : job.ended;
            late += end > job.released + task.deadline ? 1 : 0;
        }
        return late;
    }

    private void charge(Known task, Job job) {
        job.charged++;
        if (job.charged == job.demand) {
            job.ended = time();
        } else if (!high && task.isHigh() && job.charged == task.low) {
            high = true;
            changes.add(time());
            for (Known other : plan) {
                for (Job given : other.isHigh() ? new ArrayList<Job>() : other.pending()) {
                    given.ended = -2;
                    givenUp++;
                }
            }
        }
    }

    private void forget() {
        plan.removeIf(task -> task.leaving && task.pending().isEmpty());
        order.removeIf(task -> task.leaving && task.pending().isEmpty());
    }

    private static int rounded(int span, int period) {
        return (int) Math.ceil(span / (double) period);
    }

    /** -1, if it does not fit. */
    private static int lowResponse(Known task, List<Known> ahead) {
        for (int span = 1; span <= task.deadline; span++) {
            int sum = task.low;
            for (Known other : ahead) {
                sum += rounded(span, other.period) * other.low;
            }
            if (sum == span) {
                return span;
            }
        }
        return -1;
    }

    /** -1, if it does not fit. */
    private static int bound(Known task, List<Known> ahead) {
        int inLow = lowResponse(task, ahead);
        for (int span = 1; span <= task.deadline; span++) {
            int sum = task.high;
            for (Known other : ahead) {
                sum += other.isHigh() ? rounded(span, other.period) * other.high
                        : rounded(inLow, other.period) * other.low;
            }
            if (sum == span) {
                return span;
            }
        }
        return -1;
    }

    private static List<int[]> releases(List<Known> some, int deadline) {
        List<int[]> all = new ArrayList<>();
        for (Known task : some) {
            for (int when = 0; when < deadline; when += task.period) {
                all.add(new int[] {when, task.id});
            }
        }
        all.sort(Comparator.comparingInt(release -> release[0]));
        return all;
    }
}
