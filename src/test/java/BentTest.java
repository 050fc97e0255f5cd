/**
 * Sentences of the document that no run of calls comes to: what was admitted ends by its deadline,
 * before its next release, and its plan always fits. So a task is bent behind its admission.
 */
public final class BentTest {
    public static void main(String[] args) {
        fourPending();
        firstPendingJobFirst();
        allPendingJobsGivenUp();
        leavingWithManyJobs();
        leavingBehindItsPeriod();
        endedBehindTheDeadline();
        pendingBehindTheDeadline();
        lateJobsForGood();
        assignChangesThePlan();
        assignTakesTheLastThatPasses();
        assignLooksAtBounds();
        assignFindsNone();
        placeInAnyPlan();
        Check.end();
    }

    /** Task 2 keeps the machine busy, so that the jobs of task 1 wait. */
    private static Run busy(String sentence, String addOfOne) {
        return Run.of(sentence, addOfOne, "add(2, 100, 40, 30, 0) = 0", "tick() = 0", "release(2, 30) = 1")
                .bend(1, "period", 1);
    }

    private static void fourPending() {
        busy("4: or four of its jobs are pending", "add(1, 100, 100, 50, 0) = 0")
                .then("release(1, 3) = 1", "tick() = 2", "release(1, 2) = 2", "tick() = 2", "release(1, 1) = 3",
                "tick() = 2", "about(1, 2) = 3", "release(1, 4) = 4", "about(1, 2) = 4", "count(6) = 5",
                "tick() = 2", "about(1, 6) = 5", "count(0) = 5", "release(1, 1) = ISE", "release(1, 51) = IAE",
                "run(28) = 0", "about(1, 5) = 2", "release(1, 1) = ISE", "tick() = 1", "about(1, 2) = 3",
                "release(1, 1) = 5", "release(1, 1) = ISE").end();
        Run.of("4: of a high one in high mode too",
                "add(1, 100, 100, 1, 40) = 0", "tick() = 0").bend(1, "period", 1)
                .then("release(1, 40) = 1", "tick() = 1", "count(2) = 1", "release(1, 1) = 2", "tick() = 1",
                "release(1, 1) = 3", "tick() = 1", "release(1, 1) = 4", "tick() = 1", "release(1, 1) = ISE",
                "run(36) = 0", "release(1, 1) = 5").end();
    }

    private static void firstPendingJobFirst() {
        busy("the first pending job is charged", "add(1, 100, 100, 50, 0) = 0")
                .then("release(1, 3) = 1", "tick() = 2", "release(1, 2) = 2", "tick() = 2", "release(1, 1) = 3",
                "run(28) = 0", "ended(2, 1) = 31", "run(2) = 0", "ended(1, 1) = NONE", "tick() = 1",
                "ended(1, 1) = 34", "ended(1, 2) = NONE", "run(2) = 0", "ended(1, 2) = 36", "ended(1, 3) = NONE",
                "tick() = 1", "ended(1, 3) = 37", "tick() = 0").end();
        busy("each of them passes the low budget by its own charge", "add(1, 100, 100, 3, 6) = 0")
                .then("release(1, 3) = 1", "tick() = 2", "release(1, 4) = 2", "run(29) = 0", "run(3) = 0",
                "ended(1, 1) = 34", "run(2) = 0", "count(2) = 0", "tick() = 1", "count(2) = 1",
                "changed(0) = 37").end();
    }

    private static void allPendingJobsGivenUp() {
        Run.of("all pending jobs of low tasks are GIVEN UP: each one of a task",
                "add(1, 100, 10, 1, 2) = 0", "add(2, 100, 50, 40, 0) = 0", "tick() = 0").bend(2, "period", 1)
                .then("release(2, 1) = 1", "tick() = 2", "release(2, 40) = 2", "tick() = 2", "release(2, 2) = 3",
                "tick() = 2", "release(2, 3) = 4", "release(1, 2) = 1", "count(6) = 4", "tick() = 1",
                "count(7) = 3", "count(6) = 1", "about(2, 2) = 0", "ended(2, 1) = 2", "ended(2, 2) = GIVEN_UP",
                "ended(2, 3) = GIVEN_UP", "ended(2, 4) = GIVEN_UP", "run(2) = 1",
                "release(2, 2) = 5", "run(2) = 0", "ended(2, 5) = 9").end();
    }

    private static void leavingWithManyJobs() {
        busy("a leaving task is known as long as one of its jobs is pending", "add(1, 100, 100, 50, 0) = 0")
                .then("release(1, 1) = 1", "tick() = 2", "release(1, 1) = 2", "remove(1) = false", "run(30) = 0",
                "about(1, 2) = 1", "about(1, 7) = 1", "tick() = 1", "about(1, 7) = NSE", "count(4) = 1").end();
    }

    private static void leavingBehindItsPeriod() {
        busy("4: IllegalStateException: it is leaving, though its period has passed", "add(1, 100, 100, 50, 0) = 0")
                .then("release(1, 1) = 1", "run(5) = 0", "remove(1) = false", "about(1, 6) = 2", "count(0) = 6",
                "release(1, 1) = ISE", "about(1, 2) = 1").end();
    }

    private static void endedBehindTheDeadline() {
        Run.of("10: its jobs that ended behind their deadlines (their release + the task's deadline)",
                "add(1, 20, 20, 5, 0) = 0", "tick() = 0").bend(1, "deadline", 3)
                .then("release(1, 3) = 1", "run(3) = 0", "ended(1, 1) = 4", "about(1, 8) = 0", "run(17) = 17",
                "about(1, 8) = 0", "release(1, 4) = 2", "run(4) = 0", "ended(1, 2) = 25", "about(1, 8) = 1",
                "run(16) = 16", "release(1, 3) = 3", "run(20) = 17", "about(1, 8) = 1").end();
    }

    private static void pendingBehindTheDeadline() {
        Run.of("10: or are pending and behind them: not at them",
                "add(1, 20, 20, 5, 0) = 0", "tick() = 0").bend(1, "deadline", 3)
                .then("release(1, 5) = 1", "about(1, 8) = 0", "run(3) = 0", "count(0) = 4", "about(1, 8) = 0",
                "tick() = 1", "ended(1, 1) = NONE", "about(1, 8) = 1", "tick() = 1", "ended(1, 1) = 6",
                "about(1, 8) = 1").end();
        busy("10: each of those that are pending", "add(1, 100, 100, 50, 0) = 0").bend(1, "deadline", 3)
                .then("release(1, 1) = 1", "tick() = 2", "release(1, 1) = 2", "run(2) = 0", "about(1, 8) = 0",
                "tick() = 2", "about(1, 8) = 1", "tick() = 2", "about(1, 8) = 2", "release(1, 1) = 3",
                "about(1, 8) = 2").end();
        Run.of("10: one that is given up is pending no more",
                "add(1, 20, 10, 1, 2) = 0", "add(2, 20, 20, 5, 0) = 0", "tick() = 0").bend(2, "deadline", 3)
                .then("release(2, 5) = 1", "run(4) = 0", "about(2, 8) = 1", "release(1, 2) = 1", "tick() = 1",
                "ended(2, 1) = GIVEN_UP", "about(2, 8) = 0").end();
    }

    private static void lateJobsForGood() {
        Run run = Run.of("10: more of them than are kept", "add(1, 10, 10, 5, 0) = 0", "tick() = 0")
                .bend(1, "deadline", 3);
        for (int job = 1; job <= 12; job++) {
            run.then("release(1, 4) = " + job, "run(10) = 6", "about(1, 8) = " + job);
        }
        run.then("remove(1) = true", "add(1, 10, 10, 5, 0) = 0", "about(1, 8) = 0").end();
    }

    private static void assignChangesThePlan() {
        Run.of("7: true, and it is the plan; the order is, behind an idle tick",
                "add(1, 50, 10, 3, 0) = 0", "add(2, 50, 20, 4, 0) = 0", "tick() = 0").bend(2, "deadline", 5)
                .then("assign() = true", "about(2, 1) = 0", "about(1, 1) = 1", "response(2, 0) = 4",
                "response(1, 0) = 7", "about(1, 0) = 0", "about(2, 0) = 1", "release(1, 1) = 1",
                "release(2, 1) = 1", "tick() = 1", "tick() = 2", "about(1, 0) = 0", "tick() = 0",
                "about(2, 0) = 0", "about(1, 0) = 1").end();
        Run.of("7: a response at the deadline passes",
                "add(1, 50, 10, 3, 0) = 0", "add(2, 50, 20, 4, 0) = 0").bend(2, "deadline", 7)
                .then("assign() = true", "about(1, 1) = 0", "about(2, 1) = 1").end();
        Run.of("7: of all known tasks: one that leaves too",
                "add(1, 50, 10, 3, 0) = 0", "add(2, 50, 20, 4, 0) = 0", "tick() = 0", "release(2, 4) = 1",
                "remove(2) = false").bend(2, "deadline", 5)
                .then("assign() = true", "about(2, 1) = 0", "about(1, 1) = 1", "about(2, 7) = 1").end();
    }

    private static void assignTakesTheLastThatPasses() {
        Run.of("7: the one that is last in the present plan of those that pass there; then the place ahead",
                "add(1, 50, 30, 3, 0) = 0", "add(2, 50, 30, 3, 0) = 0", "add(3, 50, 30, 3, 0) = 0")
                .bend(3, "deadline", 6)
                .then("assign() = true", "about(1, 1) = 0", "about(3, 1) = 1", "about(2, 1) = 2").end();
        Run.of("7: (with all the others ahead of it)",
                "add(1, 50, 30, 3, 0) = 0", "add(2, 50, 30, 3, 0) = 0", "add(3, 50, 30, 3, 0) = 0")
                .bend(3, "deadline", 6).bend(2, "deadline", 8)
                .then("assign() = true", "about(2, 1) = 0", "about(3, 1) = 1", "about(1, 1) = 2").end();
        Run.of("7: the others keep their order in the present plan",
                "add(4, 50, 30, 3, 0) = 0", "add(3, 50, 30, 3, 0) = 0", "add(2, 50, 30, 3, 0) = 0",
                "add(1, 50, 30, 3, 0) = 0").bend(1, "deadline", 3)
                .then("assign() = true", "about(1, 1) = 0", "about(4, 1) = 1", "about(3, 1) = 2",
                "about(2, 1) = 3").end();
    }

    private static void assignLooksAtBounds() {
        Run.of("7: (by their bound if they are high)",
                "add(1, 50, 30, 3, 0) = 0", "add(2, 50, 30, 3, 10) = 0").bend(2, "deadline", 12)
                .then("assign() = true", "about(2, 1) = 0", "about(1, 1) = 1").end();
        Run.of("7: a bound at the deadline passes",
                "add(1, 50, 30, 3, 0) = 0", "add(2, 50, 30, 3, 10) = 0").bend(2, "deadline", 13)
                .then("assign() = true", "about(1, 1) = 0", "about(2, 1) = 1").end();
        Run.of("7: a bound with all the others ahead, high ones by their high budgets",
                "add(1, 50, 30, 2, 8) = 0", "add(2, 50, 30, 2, 9) = 0").bend(2, "deadline", 10).bend(1, "deadline", 17)
                .then("assign() = true", "about(2, 1) = 0", "about(1, 1) = 1", "response(1, 1) = 17").end();
        Run.of("7: a bound one above the deadline passes nowhere",
                "add(1, 50, 30, 2, 8) = 0", "add(2, 50, 30, 2, 9) = 0").bend(2, "deadline", 10).bend(1, "deadline", 16)
                .then("assign() = false", "about(1, 1) = 0", "about(2, 1) = 1").end();
    }

    private static void assignFindsNone() {
        Run.of("7: false, and nothing changes, if for some place none passes: the last one",
                "add(1, 50, 10, 3, 0) = 0", "add(2, 50, 20, 4, 0) = 0").bend(1, "deadline", 6).bend(2, "deadline", 6)
                .then("assign() = false", "about(1, 1) = 0", "about(2, 1) = 1").end();
        Run.of("7: false, and nothing changes, if for some place none passes: the first one",
                "add(1, 50, 10, 3, 0) = 0", "add(2, 50, 20, 4, 0) = 0", "tick() = 0").bend(2, "deadline", 3)
                .then("assign() = false", "about(1, 1) = 0", "about(2, 1) = 1", "tick() = 0", "about(1, 0) = 0",
                "about(2, 0) = 1").end();
    }

    private static void placeInAnyPlan() {
        for (int deadline : new int[] {15, 20, 25, 30, 45}) {
            int place = deadline < 20 ? 0 : deadline < 30 ? 2 : 3;
            Run.of("directly behind the last task whose deadline is not longer, in a plan of any order: " + deadline,
                    "add(1, 90, 10, 1, 0) = 0", "add(2, 90, 20, 1, 0) = 0", "add(3, 90, 30, 1, 0) = 0")
                    .bend(1, "deadline", 40)
                    .then("add(4, 90, " + deadline + ", 1, 0) = 0", "about(4, 1) = " + place).end();
        }
    }
}
