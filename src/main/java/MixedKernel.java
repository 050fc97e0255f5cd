import java.util.NoSuchElementException;

/**
 * The kernel of a machine whose tasks matter more or less: jobs run by priority, tick by tick; when
 * one of a high task passes its low budget, low jobs are given up till the machine is idle; tasks
 * are admitted, while others run, by exact response times and by a bound for the change.
 */
public final class MixedKernel {
    public static final int NONE = -1;
    public static final int GIVEN_UP = -2;

    private static final int TASKS = 12;
    private static final int LONGEST_PERIOD = 1000;
    private static final int MOST_LOW = 100;
    private static final int MOST_HIGH = 200;
    private static final int MOST_TICKS = 1000;
    private static final int MOST_PENDING = 4;
    private static final int JOBS_KEPT = 8;
    private static final int CHANGES_KEPT = 8;
    private static final int TICKS_KEPT = 256;

    /** Stands for every response that does not fit: it is above all deadlines. */
    private static final int TOO_LONG = LONGEST_PERIOD + 1;

    private final TaskSet set;
    private final Task[] tasks;
    private final Line plan;
    private final Line order;
    private final Line trial;
    private final Refusal refusal;
    private final Latest ran;
    private final Latest changes;
    private boolean highMode;
    private int time;
    private int idleTicks;
    private int latestIdle;
    private int givenUp;

    public MixedKernel() {
        set = new TaskSet();
        tasks = set.all;
        plan = new Line();
        order = new Line();
        trial = new Line();
        refusal = new Refusal();
        ran = new Latest(TICKS_KEPT);
        changes = new Latest(CHANGES_KEPT);
    }

    public int add(int id, int period, int deadline, int low, int high)
            throws IllegalArgumentException, IllegalStateException {
        if (!isTask(id) || !areTimes(period, deadline) || !areBudgets(low, high)) {
            throw new IllegalArgumentException();
        }
        if (isKnown(id)) {
            throw new IllegalStateException();
        }
        tasks[id].begin(period, deadline, low, high);
        trial.become(plan);
        trial.insert(placeFor(deadline), id);
        return admitTrial();
    }

    public boolean remove(int id) throws NoSuchElementException, IllegalStateException {
        if (!isKnown(id)) {
            throw new NoSuchElementException();
        }
        if (tasks[id].leaving) {
            throw new IllegalStateException();
        }
        tasks[id].leaving = true;
        forgetIfLeft(id);
        return !isKnown(id);
    }

    public int release(int id, int demand)
            throws NoSuchElementException, IllegalArgumentException, IllegalStateException {
        if (!isInForce(id)) {
            throw new NoSuchElementException();
        }
        Task task = tasks[id];
        if (demand < 1 || demand > task.greatestBudget()) {
            throw new IllegalArgumentException();
        }
        if (task.leaving || time < task.nextRelease() || task.pending >= MOST_PENDING) {
            throw new IllegalStateException();
        }
        if (highMode && !task.isHigh()) {
            task.dropped++;
            return 0;
        }
        return task.newJob(demand, time);
    }

    public int tick() {
        return advance();
    }

    public int run(int n) throws IllegalArgumentException {
        if (n < 0 || n > MOST_TICKS) {
            throw new IllegalArgumentException();
        }
        int idle = 0;
        for (int i = 0; i < n; i++) {
            if (advance() == 0) {
                idle++;
            }
        }
        return idle;
    }

    public boolean assign() {
        trial.become(plan);
        for (int place = trial.size - 1; place >= 0; place--) {
            int chosen = set.lastThatPasses(trial, place);
            if (chosen == NONE) {
                return false;
            }
            trial.moveBack(chosen, place);
        }
        plan.become(trial);
        return true;
    }

    public int response(int id, int what) throws NoSuchElementException, IllegalArgumentException {
        int place = plan.placeOf(id);
        if (place == NONE) {
            throw new NoSuchElementException();
        }
        if (what == 0) {
            return set.lowResponse(plan, place, place);
        }
        if (what == 1) {
            return set.bound(plan, place, place);
        }
        throw new IllegalArgumentException();
    }

    public int ended(int id, int job) throws NoSuchElementException {
        if (!isKnown(id) || !tasks[id].keeps(job)) {
            throw new NoSuchElementException();
        }
        return tasks[id].endTimes[slotOf(job)];
    }

    public int about(int id, int what) throws NoSuchElementException, IllegalArgumentException {
        if (!isKnown(id)) {
            throw new NoSuchElementException();
        }
        Task task = tasks[id];
        switch (what) {
            case 0: return order.placeOf(id);
            case 1: return plan.placeOf(id);
            case 2: return task.pending;
            case 3: return task.jobs;
            case 4: return task.dropped;
            case 5: return task.ticks;
            case 6: return task.nextRelease();
            case 7: return task.leaving ? 1 : 0;
            case 8: return task.lateJobs(time);
            default: throw new IllegalArgumentException();
        }
    }

    public int witness(int i, int what) throws NoSuchElementException, IllegalArgumentException {
        if (i < 0 || i >= refusal.releases()) {
            throw new NoSuchElementException();
        }
        if (what == 0) {
            return refusal.timeOf(i);
        }
        if (what == 1) {
            return refusal.taskOf(i);
        }
        throw new IllegalArgumentException();
    }

    public int trace(int k) throws NoSuchElementException {
        if (!ran.keeps(k)) {
            throw new NoSuchElementException();
        }
        return ran.back(k);
    }

    public int changed(int k) throws NoSuchElementException {
        if (!changes.keeps(k)) {
            throw new NoSuchElementException();
        }
        return changes.back(k);
    }

    public int count(int what) throws IllegalArgumentException {
        switch (what) {
            case 0: return time;
            case 1: return idleTicks;
            case 2: return highMode ? 1 : 0;
            case 3: return changes.total;
            case 4: return plan.size;
            case 5: return order.size;
            case 6: return pendingJobs();
            case 7: return givenUp;
            case 8: return time - latestIdle;
            default: throw new IllegalArgumentException();
        }
    }

    private static boolean isTask(int id) {
        return id >= 1 && id <= TASKS;
    }

    private static boolean areTimes(int period, int deadline) {
        return period >= 1 && period <= LONGEST_PERIOD && deadline >= 1 && deadline <= period;
    }

    private static boolean areBudgets(int low, int high) {
        return low >= 1 && low <= MOST_LOW && (high == 0 || (high >= low && high <= MOST_HIGH));
    }

    private static int slotOf(int job) {
        return Math.floorMod(job, JOBS_KEPT);
    }

    /** How many releases, one a period from 0 on, come before the end of a span. */
    private static int releasesWithin(int span, int period) {
        return period < 1 ? 0 : (span + period - 1) / period;
    }

    private boolean isKnown(int id) {
        return plan.placeOf(id) != NONE;
    }

    private boolean isInForce(int id) {
        return order.placeOf(id) != NONE;
    }

    private int placeFor(int deadline) {
        for (int place = plan.size - 1; place >= 0; place--) {
            if (tasks[plan.ids[place]].deadline <= deadline) {
                return place + 1;
            }
        }
        return 0;
    }

    private int admitTrial() {
        int late = set.firstLowResponseThatFails(trial);
        if (late != NONE) {
            refusal.keep(trial, late, tasks);
            return trial.ids[late];
        }
        int unbounded = set.firstBoundThatFails(trial);
        if (unbounded != NONE) {
            return -trial.ids[unbounded];
        }
        plan.become(trial);
        return 0;
    }

    private int pendingJobs() {
        int sum = 0;
        for (int id = 1; id <= TASKS; id++) {
            sum += tasks[id].pending;
        }
        return sum;
    }

    private int advance() {
        int id = firstToRun();
        time++;
        ran.put(id);
        if (id == 0) {
            settle();
        } else {
            charge(id);
        }
        return id;
    }

    private int firstToRun() {
        for (int place = 0; place < order.size; place++) {
            if (tasks[order.ids[place]].pending > 0) {
                return order.ids[place];
            }
        }
        return 0;
    }

    private void settle() {
        idleTicks++;
        latestIdle = time;
        highMode = false;
        order.become(plan);
    }

    private void charge(int id) {
        Task task = tasks[id];
        boolean hasEnded = task.chargeFirst(time);
        if (!hasEnded && !highMode && task.isHigh() && task.charged == task.low) {
            becomeHigh();
        }
        forgetIfLeft(id);
    }

    private void becomeHigh() {
        highMode = true;
        changes.put(time);
        for (int id = 1; id <= TASKS; id++) {
            if (!tasks[id].isHigh()) {
                givenUp += tasks[id].giveUpPending();
                forgetIfLeft(id);
            }
        }
    }

    private void forgetIfLeft(int id) {
        if (tasks[id].leaving && tasks[id].pending == 0) {
            plan.drop(id);
            order.drop(id);
        }
    }

    /** What a task is, and its latest jobs. */
    private static final class Task {
        private static final int LOW_OF_ALL = 0;
        private static final int LOW_OF_LOW_ONES = 1;
        private static final int HIGH_OF_HIGH_ONES = 2;

        private int period = 1;
        private int deadline = 1;
        private int low = 1;
        private int high;
        private boolean leaving;
        private int jobs;
        private int dropped;
        private int ticks;
        private int endedLate;
        private int pending;
        /** What the first pending job was charged; the others behind it have not run yet. */
        private int charged;
        private final int[] demands = new int[JOBS_KEPT];
        private final int[] releaseTimes = new int[JOBS_KEPT];
        private final int[] endTimes = new int[JOBS_KEPT];

        void begin(int itsPeriod, int itsDeadline, int itsLow, int itsHigh) {
            period = itsPeriod;
            deadline = itsDeadline;
            low = itsLow;
            high = itsHigh;
            leaving = false;
            jobs = 0;
            dropped = 0;
            ticks = 0;
            endedLate = 0;
            pending = 0;
            charged = 0;
        }

        boolean isHigh() {
            return high > 0;
        }

        int greatestBudget() {
            return isHigh() ? high : low;
        }

        /** Its budget where only some budgets count; the high one of a low task is 0. */
        int budgetAmong(int budgets) {
            if (budgets == HIGH_OF_HIGH_ONES) {
                return high;
            }
            return budgets == LOW_OF_LOW_ONES && high > 0 ? 0 : low;
        }

        int nextRelease() {
            return jobs == 0 ? 0 : releaseTimes[slotOf(jobs)] + period;
        }

        boolean keeps(int job) {
            return job >= 1 && job <= jobs && job > jobs - JOBS_KEPT;
        }

        int newJob(int demand, int now) {
            jobs++;
            pending++;
            int slot = slotOf(jobs);
            demands[slot] = demand;
            releaseTimes[slot] = now;
            endTimes[slot] = NONE;
            return jobs;
        }

        /** Charges the first pending job for the tick that is over now: whether it has ended. */
        boolean chargeFirst(int now) {
            int slot = slotOf(jobs - pending + 1);
            ticks++;
            charged++;
            if (charged < demands[slot]) {
                return false;
            }
            endTimes[slot] = now;
            if (isLate(slot, now)) {
                endedLate++;
            }
            pending--;
            charged = 0;
            return true;
        }

        int giveUpPending() {
            int many = pending;
            for (int back = 0; back < many; back++) {
                endTimes[slotOf(jobs - back)] = GIVEN_UP;
            }
            pending = 0;
            charged = 0;
            return many;
        }

        int lateJobs(int now) {
            int late = endedLate;
            for (int back = 0; back < pending; back++) {
                if (isLate(slotOf(jobs - back), now)) {
                    late++;
                }
            }
            return late;
        }

        boolean isLate(int slot, int now) {
            return now > releaseTimes[slot] + deadline;
        }
    }

    /** Tasks by their numbers, the one with the highest priority first. */
    private static final class Line {
        private final int[] ids = new int[TASKS];
        private int size;

        int placeOf(int id) {
            for (int place = 0; place < size; place++) {
                if (ids[place] == id) {
                    return place;
                }
            }
            return NONE;
        }

        void become(Line other) {
            System.arraycopy(other.ids, 0, ids, 0, TASKS);
            size = other.size;
        }

        void insert(int place, int id) {
            if (size >= TASKS || place < 0 || place > size) {
                return;
            }
            for (int i = size; i > place; i--) {
                ids[i] = ids[i - 1];
            }
            ids[place] = id;
            size++;
        }

        void drop(int id) {
            int place = placeOf(id);
            if (place == NONE) {
                return;
            }
            moveBack(place, size - 1);
            size--;
        }

        /** Takes one to a place behind its own; those between them go one ahead. */
        void moveBack(int from, int to) {
            int id = ids[from];
            for (int i = from; i < to; i++) {
                ids[i] = ids[i + 1];
            }
            ids[to] = id;
        }
    }

    /**
     * All tasks, and their responses and bounds in a line. Of a task at a place, all the others
     * from the line's first place to a last one count as ahead of it: so a task can be looked at
     * as if it were moved back.
     */
    private static final class TaskSet {
        /** By their numbers; those that are not known stand here too, so none is ever null. */
        private final Task[] all = new Task[TASKS + 1];

        TaskSet() {
            for (int id = 0; id <= TASKS; id++) {
                all[id] = new Task();
            }
        }

        int lowResponse(Line line, int at, int last) {
            return leastSpan(line, at, last, all[line.ids[at]].low, Task.LOW_OF_ALL);
        }

        int bound(Line line, int at, int last) {
            Task task = all[line.ids[at]];
            if (!task.isHigh()) {
                return NONE;
            }
            int inLowMode = leastSpan(line, at, last, task.low, Task.LOW_OF_ALL);
            int own = task.high + workAhead(line, at, last, inLowMode, Task.LOW_OF_LOW_ONES);
            return leastSpan(line, at, last, own, Task.HIGH_OF_HIGH_ONES);
        }

        int firstLowResponseThatFails(Line line) {
            for (int place = 0; place < line.size; place++) {
                if (lowResponse(line, place, place) > all[line.ids[place]].deadline) {
                    return place;
                }
            }
            return NONE;
        }

        int firstBoundThatFails(Line line) {
            for (int place = 0; place < line.size; place++) {
                if (bound(line, place, place) > all[line.ids[place]].deadline) {
                    return place;
                }
            }
            return NONE;
        }

        int lastThatPasses(Line line, int last) {
            for (int at = last; at >= 0; at--) {
                int deadline = all[line.ids[at]].deadline;
                if (lowResponse(line, at, last) <= deadline && bound(line, at, last) <= deadline) {
                    return at;
                }
            }
            return NONE;
        }

        /**
         * The least span that holds a task's own ticks and the work ahead of it; TOO_LONG, if it
         * does not fit. The span grows by one at least with each step, from one on, so the steps
         * need not be more than the deadline's ticks.
         */
        private int leastSpan(Line line, int at, int last, int own, int budgets) {
            int deadline = all[line.ids[at]].deadline;
            int span = own;
            for (int step = 0; step <= deadline && span <= deadline; step++) {
                int next = own + workAhead(line, at, last, span, budgets);
                if (next == span) {
                    return span;
                }
                span = next;
            }
            return TOO_LONG;
        }

        private int workAhead(Line line, int at, int last, int span, int budgets) {
            int sum = 0;
            for (int place = 0; place <= last; place++) {
                if (place != at) {
                    Task task = all[line.ids[place]];
                    sum += releasesWithin(span, task.period) * task.budgetAmong(budgets);
                }
            }
            return sum;
        }
    }

    /**
     * The witness of a refused task. It keeps the periods alone, as they were then, and finds each
     * release when it is asked for: the releases themselves would need a thousand places and more.
     */
    private static final class Refusal {
        /** The greatest power of two that is not above the greatest time of a release. */
        private static final int WIDEST_STEP = 512;

        private final int[] ids = new int[TASKS];
        private final int[] periods = new int[TASKS];
        private int size;
        private int deadline;

        void keep(Line line, int place, Task[] tasks) {
            size = place + 1;
            for (int i = 0; i < size; i++) {
                ids[i] = line.ids[i];
                periods[i] = tasks[line.ids[i]].period;
            }
            deadline = tasks[line.ids[place]].deadline;
        }

        int releases() {
            return releasesBefore(deadline);
        }

        /** Release i has i others ahead: its time is the last with no more than i before it. */
        int timeOf(int i) {
            int found = 0;
            for (int step = WIDEST_STEP; step > 0; step /= 2) {
                if (found + step < deadline && releasesBefore(found + step) <= i) {
                    found += step;
                }
            }
            return found;
        }

        int taskOf(int i) {
            int when = timeOf(i);
            int left = i - releasesBefore(when);
            for (int row = 0; row < size; row++) {
                if (isReleaseTime(when, periods[row])) {
                    if (left == 0) {
                        return ids[row];
                    }
                    left--;
                }
            }
            return NONE;
        }

        private int releasesBefore(int when) {
            int sum = 0;
            for (int row = 0; row < size; row++) {
                sum += releasesWithin(when, periods[row]);
            }
            return sum;
        }

        private static boolean isReleaseTime(int when, int period) {
            return period >= 1 && when % period == 0;
        }
    }

    /** The latest numbers of a growing row, and how many it ever had. */
    private static final class Latest {
        private final int[] kept;
        private int total;

        Latest(int room) {
            kept = new int[room];
        }

        void put(int number) {
            kept[Math.floorMod(total, kept.length)] = number;
            total++;
        }

        boolean keeps(int k) {
            return k >= 0 && k < kept.length && k < total;
        }

        int back(int k) {
            return kept[Math.floorMod(total - 1 - k, kept.length)];
        }
    }
}
