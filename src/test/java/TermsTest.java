/** The sentences of "Terms" that name a boundary case: a run of calls for each. */
public final class TermsTest {
    public static void main(String[] args) {
        tasks();
        budgets();
        waiting();
        time();
        idleTicks();
        whoRuns();
        ends();
        changeToHigh();
        noChangeToHigh();
        givenUp();
        dropped();
        leaving();
        theOthersKeepTheirOrder();
        anew();
        lowResponse();
        bound();
        boundOfLeastBudgets();
        fits();
        place();
        admitting();
        whoseWitness();
        releasesOfTheWitness();
        latestWitness();
        exceptions();
        Check.end();
    }

    private static void tasks() {
        Run known = Run.of("TASKS are 1 .. 12", "add(0, 100, 100, 1, 0) = IAE", "add(13, 100, 100, 1, 0) = IAE");
        for (int id = 1; id <= 12; id++) {
            known.then("add(" + id + ", 100, 100, 1, 0) = 0");
        }
        known.then("count(4) = 12", "add(0, 100, 100, 1, 0) = IAE", "add(13, 100, 100, 1, 0) = IAE",
                "tick() = 0", "count(5) = 12", "about(12, 0) = 11");
        for (String id : new String[] {"0", "13", "-1", "least", "greatest"}) {
            known.then("remove(" + id + ") = NSE", "release(" + id + ", 1) = NSE", "response(" + id + ", 0) = NSE",
                    "ended(" + id + ", 1) = NSE", "about(" + id + ", 0) = NSE");
        }
        known.end();
    }

    private static void budgets() {
        Run.of("a DEADLINE (not above the period)",
                "add(1, 10, 11, 1, 0) = IAE", "add(1, 10, 10, 1, 0) = 0", "add(2, 10, 9, 1, 0) = 0").end();
        Run.of("a HIGH BUDGET (not below the low one)",
                "add(1, 100, 100, 5, 4) = IAE", "add(1, 100, 100, 5, 1) = IAE", "add(1, 100, 100, 5, 5) = 0",
                "response(1, 1) = 5").end();
        Run.of("a task without one is LOW",
                "add(1, 100, 100, 5, 0) = 0", "response(1, 1) = NONE").end();
    }

    private static void waiting() {
        Run.of("It is WAITING, till it is IN FORCE",
                "add(1, 20, 20, 4, 0) = 0", "count(4) = 1", "count(5) = 0", "about(1, 0) = NONE",
                "release(1, 1) = NSE", "run(0) = 0", "count(5) = 0",
                "tick() = 0", "count(5) = 1", "about(1, 0) = 0", "release(1, 1) = 1").end();
    }

    private static void time() {
        Run.of("TIME is how many ticks there were",
                "count(0) = 0", "add(1, 20, 20, 4, 0) = 0", "count(0) = 0", "tick() = 0", "count(0) = 1",
                "release(1, 1) = 1", "count(0) = 1", "tick() = 1", "count(0) = 2",
                "run(0) = 0", "count(0) = 2", "run(7) = 7", "count(0) = 9", "run(1001) = IAE", "count(0) = 9").end();
    }

    private static void idleTicks() {
        Run.of("A tick in which nothing runs is IDLE: behind it the mode is low",
                "add(1, 50, 50, 2, 4) = 0", "tick() = 0", "release(1, 4) = 1", "run(4) = 0",
                "ended(1, 1) = 5", "count(6) = 0", "count(2) = 1",
                "tick() = 0", "count(2) = 0").end();
        Run.of("behind it all known tasks are in force",
                "add(1, 50, 50, 5, 0) = 0", "add(2, 50, 40, 5, 0) = 0", "tick() = 0", "count(5) = 2",
                "release(1, 2) = 1", "tick() = 1", "add(3, 50, 20, 5, 0) = 0", "tick() = 1",
                "ended(1, 1) = 3", "count(5) = 2", "about(3, 0) = NONE", "release(3, 1) = NSE",
                "tick() = 0", "count(5) = 3", "release(3, 1) = 1").end();
        Run.of("behind it the order is the plan",
                "add(1, 50, 50, 5, 0) = 0", "tick() = 0", "release(1, 2) = 1", "add(2, 50, 20, 5, 0) = 0",
                "tick() = 1", "about(1, 0) = 0", "about(1, 1) = 1", "about(2, 1) = 0", "tick() = 1",
                "about(1, 0) = 0", "tick() = 0", "about(1, 0) = 1", "about(2, 0) = 0").end();
        Run.of("a task that came and went while another ran was never in force",
                "add(1, 50, 50, 5, 0) = 0", "tick() = 0", "release(1, 2) = 1", "add(2, 50, 20, 5, 0) = 0",
                "tick() = 1", "remove(2) = true", "run(2) = 1", "count(5) = 1", "about(1, 0) = 0").end();
    }

    private static void whoRuns() {
        Run.of("the first task in the order that has one, the first one with the highest priority",
                "add(1, 90, 30, 3, 0) = 0", "add(2, 90, 10, 3, 0) = 0", "add(3, 90, 20, 3, 0) = 0",
                "tick() = 0", "release(1, 3) = 1", "tick() = 1", "release(3, 2) = 1", "tick() = 3",
                "release(2, 2) = 1", "tick() = 2", "tick() = 2", "tick() = 3", "tick() = 1", "tick() = 1",
                "tick() = 0").end();
        Run.of("of two with one deadline the one that was added first is ahead",
                "add(2, 90, 30, 3, 0) = 0", "add(1, 90, 30, 3, 0) = 0", "tick() = 0",
                "release(1, 1) = 1", "release(2, 1) = 1", "tick() = 2", "tick() = 1").end();
        Run.of("it is charged one",
                "add(1, 90, 30, 3, 0) = 0", "add(2, 90, 40, 3, 0) = 0", "tick() = 0", "release(1, 3) = 1",
                "release(2, 3) = 1", "about(1, 5) = 0", "tick() = 1", "about(1, 5) = 1", "about(2, 5) = 0",
                "tick() = 1", "about(1, 5) = 2", "run(10) = 6", "about(1, 5) = 3", "about(2, 5) = 3").end();
    }

    private static void ends() {
        Run.of("it ENDS when it was charged its demand, at the time behind the tick",
                "add(1, 10, 10, 3, 0) = 0", "tick() = 0", "release(1, 1) = 1", "ended(1, 1) = NONE",
                "tick() = 1", "ended(1, 1) = 2", "about(1, 2) = 0", "run(9) = 9",
                "release(1, 3) = 2", "run(2) = 0", "ended(1, 2) = NONE", "about(1, 2) = 1",
                "tick() = 1", "ended(1, 2) = 14", "about(1, 2) = 0", "ended(1, 1) = 2").end();
        Run.of("each job has a demand of its own: a job of one task leaves no charge to the next",
                "add(1, 10, 10, 5, 0) = 0", "tick() = 0", "release(1, 5) = 1", "run(10) = 5",
                "release(1, 5) = 2", "run(4) = 0", "ended(1, 2) = NONE", "tick() = 1", "ended(1, 2) = 16",
                "tick() = 0").end();
    }

    private static void changeToHigh() {
        Run.of("was charged just its low budget, and has not ended: the mode becomes HIGH",
                "add(1, 50, 50, 3, 6) = 0", "tick() = 0", "release(1, 4) = 1", "run(2) = 0", "count(2) = 0",
                "count(3) = 0", "changed(0) = NSE", "tick() = 1", "count(2) = 1", "count(3) = 1",
                "changed(0) = 4", "ended(1, 1) = NONE", "tick() = 1", "ended(1, 1) = 5", "count(2) = 1").end();
        Run.of("a low budget of one is passed behind the first tick",
                "add(1, 50, 50, 1, 2) = 0", "tick() = 0", "release(1, 2) = 1", "tick() = 1", "count(2) = 1",
                "changed(0) = 2").end();
        Run.of("what others ran between does not count for its charge",
                "add(1, 50, 20, 3, 0) = 0", "add(2, 50, 50, 3, 6) = 0", "tick() = 0", "release(2, 6) = 1",
                "run(2) = 0", "release(1, 3) = 1", "run(3) = 0", "ended(1, 1) = 6", "count(2) = 0",
                "tick() = 2", "count(2) = 1", "changed(0) = 7").end();
        Run.of("a job before it leaves no charge to it",
                "add(1, 10, 10, 3, 4) = 0", "tick() = 0", "release(1, 3) = 1", "run(10) = 7", "count(3) = 0",
                "release(1, 4) = 2", "run(2) = 0", "count(2) = 0", "tick() = 1", "count(2) = 1",
                "changed(0) = 14").end();
        Run.of("in low mode again, behind an idle tick, the next one changes it anew",
                "add(1, 10, 10, 1, 3) = 0", "tick() = 0", "release(1, 2) = 1", "run(10) = 8", "count(2) = 0",
                "release(1, 2) = 2", "tick() = 1", "count(2) = 1", "count(3) = 2", "changed(0) = 12",
                "changed(1) = 2").end();
    }

    private static void noChangeToHigh() {
        Run.of("a job that ends just at its low budget does not change the mode",
                "add(1, 50, 50, 3, 6) = 0", "add(2, 60, 60, 3, 0) = 0", "tick() = 0", "release(1, 3) = 1",
                "release(2, 3) = 1", "run(3) = 0", "ended(1, 1) = 4", "count(2) = 0", "count(3) = 0",
                "ended(2, 1) = NONE", "run(3) = 0", "ended(2, 1) = 7").end();
        Run.of("nor one of a task whose budgets are the same",
                "add(1, 50, 50, 3, 3) = 0", "tick() = 0", "release(1, 3) = 1", "run(3) = 0",
                "ended(1, 1) = 4", "count(2) = 0", "count(3) = 0").end();
        Run.of("nor one of a low task",
                "add(1, 50, 50, 3, 0) = 0", "tick() = 0", "release(1, 3) = 1", "run(4) = 1",
                "count(2) = 0", "count(3) = 0").end();
        Run.of("In low mode: in high mode there is no second change",
                "add(1, 50, 20, 2, 4) = 0", "add(2, 50, 50, 2, 4) = 0", "tick() = 0", "release(1, 4) = 1",
                "release(2, 4) = 1", "run(2) = 0", "count(3) = 1", "run(4) = 0", "ended(1, 1) = 5",
                "about(2, 5) = 2", "count(3) = 1", "changed(1) = NSE", "changed(0) = 3", "run(2) = 0",
                "ended(2, 1) = 9").end();
    }

    private static void givenUp() {
        Run.of("all pending jobs of low tasks are GIVEN UP, those of high ones are not",
                "add(1, 50, 10, 1, 2) = 0", "add(2, 50, 20, 2, 0) = 0", "add(3, 50, 30, 2, 3) = 0",
                "add(4, 50, 40, 2, 0) = 0", "add(5, 50, 50, 2, 0) = 0", "tick() = 0",
                "release(5, 1) = 1", "tick() = 5", "release(4, 2) = 1", "tick() = 4", "release(2, 2) = 1",
                "release(3, 3) = 1", "release(1, 2) = 1", "count(6) = 4", "tick() = 1",
                "count(2) = 1", "count(7) = 2", "count(6) = 2",
                "ended(1, 1) = NONE", "ended(2, 1) = GIVEN_UP", "ended(3, 1) = NONE", "ended(4, 1) = GIVEN_UP",
                "ended(5, 1) = 2", "about(2, 2) = 0", "about(4, 2) = 0", "about(4, 5) = 1", "about(4, 3) = 1",
                "tick() = 1", "tick() = 3", "run(3) = 1", "ended(3, 1) = 8", "count(2) = 0",
                "ended(4, 1) = GIVEN_UP").end();
        Run.of("of all low tasks: the first number and the last one too",
                "add(6, 50, 10, 1, 2) = 0", "add(1, 50, 20, 2, 0) = 0", "add(12, 50, 30, 2, 0) = 0", "tick() = 0",
                "release(1, 2) = 1", "release(12, 2) = 1", "release(6, 2) = 1", "count(6) = 3", "tick() = 6",
                "ended(1, 1) = GIVEN_UP", "ended(12, 1) = GIVEN_UP", "count(7) = 2", "count(6) = 1").end();
        givenUpAmidKeptJobs();
        Run.of("a job given up half way leaves no charge to the next one",
                "add(1, 20, 10, 1, 2) = 0", "add(2, 20, 20, 3, 0) = 0", "tick() = 0", "release(2, 3) = 1",
                "run(2) = 0", "release(1, 2) = 1", "run(3) = 1", "ended(2, 1) = GIVEN_UP", "run(15) = 15",
                "release(2, 3) = 2", "run(2) = 0", "ended(2, 2) = NONE", "tick() = 2", "ended(2, 2) = 24",
                "about(2, 5) = 5", "tick() = 0").end();
        Run.of("a change with no low job pending gives none up",
                "add(1, 20, 10, 1, 2) = 0", "add(2, 20, 20, 3, 0) = 0", "tick() = 0", "release(1, 2) = 1",
                "run(2) = 0", "count(3) = 1", "count(7) = 0").end();
    }

    private static void givenUpAmidKeptJobs() {
        Run run = Run.of("the jobs that ended before one that is given up keep their ends",
                "add(1, 10, 5, 1, 2) = 0", "add(2, 10, 10, 1, 0) = 0", "tick() = 0");
        for (int job = 1; job <= 9; job++) {
            run.then("release(2, 1) = " + job, "run(10) = 9");
        }
        run.then("release(1, 2) = 1", "release(2, 1) = 10", "tick() = 1", "ended(2, 10) = GIVEN_UP");
        for (int job = 3; job <= 9; job++) {
            run.then("ended(2, " + job + ") = " + (10 * job - 8));
        }
        run.then("ended(2, 2) = NSE", "ended(2, 11) = NSE").end();
    }

    private static void dropped() {
        Run.of("In high mode releases of low tasks are DROPPED",
                "add(1, 50, 10, 1, 3) = 0", "add(2, 50, 20, 2, 0) = 0", "tick() = 0", "release(1, 3) = 1",
                "tick() = 1", "release(2, 2) = 0", "about(2, 4) = 1", "about(2, 3) = 0", "about(2, 2) = 0",
                "ended(2, 1) = NSE", "count(6) = 1", "count(7) = 0",
                "run(2) = 0", "count(6) = 0", "release(2, 2) = 0", "about(2, 4) = 2",
                "tick() = 0", "release(2, 2) = 1", "about(2, 4) = 2", "about(2, 3) = 1").end();
        Run.of("in low mode, up to the very change, they are not",
                "add(1, 50, 10, 2, 3) = 0", "add(2, 50, 20, 2, 0) = 0", "tick() = 0", "release(1, 3) = 1",
                "tick() = 1", "release(2, 2) = 1", "about(2, 4) = 0", "tick() = 1", "ended(2, 1) = GIVEN_UP").end();
        Run.of("those of high tasks are not, in high mode either",
                "add(1, 50, 10, 1, 3) = 0", "add(2, 50, 20, 2, 4) = 0", "tick() = 0", "release(1, 3) = 1",
                "tick() = 1", "count(2) = 1", "release(2, 4) = 1", "about(2, 4) = 0", "count(6) = 2").end();
    }

    private static void leaving() {
        Run.of("no more known, as soon as none of its jobs is pending: at once, if none is",
                "add(1, 20, 20, 2, 0) = 0", "remove(1) = true", "count(4) = 0", "about(1, 7) = NSE",
                "add(1, 20, 20, 2, 0) = 0", "tick() = 0", "remove(1) = true", "count(5) = 0",
                "add(1, 20, 20, 2, 0) = 0", "tick() = 0", "release(1, 2) = 1", "run(2) = 0", "remove(1) = true",
                "count(4) = 0").end();
        Run.of("at the end of its job, if one is pending",
                "add(1, 20, 20, 2, 0) = 0", "tick() = 0", "release(1, 2) = 1", "remove(1) = false",
                "about(1, 7) = 1", "count(4) = 1", "count(5) = 1", "tick() = 1", "about(1, 7) = 1",
                "tick() = 1", "about(1, 7) = NSE", "ended(1, 1) = NSE", "count(4) = 0", "count(5) = 0",
                "count(6) = 0", "trace(0) = 1").end();
        Run.of("when its job is given up",
                "add(1, 20, 10, 1, 2) = 0", "add(2, 20, 20, 2, 0) = 0", "tick() = 0", "release(1, 2) = 1",
                "release(2, 2) = 1", "remove(2) = false", "about(2, 7) = 1", "tick() = 1", "count(2) = 1",
                "about(2, 7) = NSE", "count(4) = 1", "count(5) = 1", "count(7) = 1").end();
        Run.of("a low task whose job was given up before leaves at once",
                "add(1, 20, 10, 1, 2) = 0", "add(2, 20, 20, 2, 0) = 0", "tick() = 0", "release(1, 2) = 1",
                "release(2, 2) = 1", "tick() = 1", "remove(2) = true", "count(4) = 1").end();
        Run.of("a high one leaves in high mode at the end of its job alone",
                "add(1, 20, 10, 1, 3) = 0", "tick() = 0", "release(1, 3) = 1", "remove(1) = false",
                "tick() = 1", "count(2) = 1", "count(4) = 1", "tick() = 1", "count(4) = 1", "tick() = 1",
                "count(4) = 0", "count(2) = 1", "tick() = 0", "count(2) = 0").end();
    }

    private static void theOthersKeepTheirOrder() {
        int[][] left = {{2, 3, 4}, {1, 3, 4}, {1, 2, 4}, {1, 2, 3}};
        for (int gone = 1; gone <= 4; gone++) {
            Run run = Run.of("(the others keep their order), when " + gone + " leaves",
                    "add(1, 90, 20, 2, 0) = 0", "add(2, 90, 30, 2, 0) = 0", "add(3, 90, 40, 2, 0) = 0",
                    "add(4, 90, 50, 2, 0) = 0", "tick() = 0", "release(" + gone + ", 1) = 1",
                    "remove(" + gone + ") = false", "tick() = " + gone, "count(4) = 3");
            for (int place = 0; place < 3; place++) {
                int id = left[gone - 1][place];
                run.then("about(" + id + ", 0) = " + place, "about(" + id + ", 1) = " + place);
            }
            run.end();
        }
        for (int gone : new int[] {1, 6, 12}) {
            Run twelve = Run.of("of twelve too, when " + gone + " leaves");
            for (int id = 1; id <= 12; id++) {
                twelve.then("add(" + id + ", 90, " + (20 + id) + ", 1, 0) = 0");
            }
            twelve.then("tick() = 0", "remove(" + gone + ") = true", "count(4) = 11", "count(5) = 11");
            for (int id = 1; id <= 12; id++) {
                String place = id == gone ? "NSE" : Integer.toString(id < gone ? id - 1 : id - 2);
                twelve.then("about(" + id + ", 0) = " + place, "about(" + id + ", 1) = " + place);
            }
            twelve.end();
        }
        Run.of("in the plan and in the order, where these differ",
                "add(1, 90, 20, 2, 0) = 0", "add(2, 90, 30, 2, 0) = 0", "add(3, 90, 40, 2, 0) = 0", "tick() = 0",
                "release(1, 1) = 1", "add(4, 90, 25, 2, 0) = 0", "remove(2) = true",
                "about(1, 1) = 0", "about(4, 1) = 1", "about(3, 1) = 2",
                "about(1, 0) = 0", "about(4, 0) = NONE", "about(3, 0) = 1").end();
    }

    private static void anew() {
        Run.of("one that is added anew has nothing of what it had before",
                "add(1, 50, 10, 1, 3) = 0", "add(2, 50, 20, 2, 0) = 0", "tick() = 0",
                "release(2, 2) = 1", "release(1, 3) = 1", "tick() = 1", "release(2, 1) = ISE", "run(60) = 58",
                "release(1, 2) = 2", "tick() = 1", "release(2, 1) = 0", "about(2, 4) = 1", "about(2, 3) = 1",
                "run(2) = 1", "remove(1) = true", "remove(2) = true",
                "add(2, 40, 30, 3, 0) = 0", "about(2, 0) = NONE", "about(2, 1) = 0", "about(2, 2) = 0",
                "about(2, 3) = 0", "about(2, 4) = 0", "about(2, 5) = 0", "about(2, 6) = 0", "about(2, 7) = 0",
                "about(2, 8) = 0", "ended(2, 1) = NSE", "release(2, 1) = NSE",
                "add(1, 40, 20, 4, 0) = 0", "about(1, 5) = 0", "about(1, 6) = 0", "response(1, 1) = NONE",
                "tick() = 0", "release(1, 5) = IAE", "release(1, 4) = 1", "release(2, 3) = 1",
                "count(3) = 2", "count(7) = 1").end();
        Run.of("nor is it leaving, or charged, when it left with a job",
                "add(1, 50, 10, 1, 3) = 0", "add(2, 50, 20, 4, 0) = 0", "tick() = 0", "release(2, 4) = 1",
                "run(2) = 0", "remove(2) = false", "release(1, 2) = 1", "tick() = 1", "about(2, 7) = NSE",
                "add(2, 50, 20, 4, 0) = 0", "about(2, 7) = 0", "about(2, 0) = NONE", "run(2) = 1",
                "release(2, 4) = 1", "run(3) = 0", "ended(2, 1) = NONE", "tick() = 2", "ended(2, 1) = 10").end();
        Run.of("a refused one has nothing either",
                "add(1, 50, 10, 5, 0) = 0", "add(2, 50, 10, 6, 0) = 2", "about(2, 1) = NSE", "remove(2) = NSE",
                "response(2, 0) = NSE", "ended(2, 1) = NSE", "release(2, 1) = NSE", "count(4) = 1",
                "tick() = 0", "release(2, 1) = NSE", "count(5) = 1").end();
    }

    private static void lowResponse() {
        Run.of("THE LOW RESPONSE (R / their period, rounded up): a whole number is not rounded",
                "add(1, 10, 10, 2, 0) = 0", "add(2, 90, 90, 8, 0) = 0", "response(2, 0) = 10").end();
        Run.of("one above it is one release more",
                "add(1, 10, 10, 2, 0) = 0", "add(2, 90, 90, 9, 0) = 0", "response(2, 0) = 13").end();
        Run.of("the first one has its low budget alone",
                "add(1, 10, 10, 2, 0) = 0", "add(2, 90, 90, 9, 0) = 0", "response(1, 0) = 2").end();
        Run.of("low budgets, of high tasks too",
                "add(1, 20, 20, 2, 9) = 0", "add(2, 90, 90, 3, 5) = 0", "response(1, 0) = 2",
                "response(2, 0) = 5").end();
        Run.of("the least R, not any",
                "add(1, 10, 10, 5, 0) = 0", "add(2, 90, 90, 5, 0) = 0", "response(2, 0) = 10").end();
    }

    private static void bound() {
        Run.of("THE BOUND: high tasks ahead count by R, a whole number is not rounded",
                "add(1, 20, 20, 3, 5) = 0", "add(2, 90, 90, 4, 15) = 0", "response(2, 0) = 7",
                "response(2, 1) = 20").end();
        Run.of("one above it is one release more",
                "add(1, 20, 20, 3, 5) = 0", "add(2, 90, 90, 4, 16) = 0", "response(2, 1) = 26").end();
        Run.of("low tasks ahead count by its low response, a whole number is not rounded",
                "add(1, 9, 9, 5, 0) = 0", "add(2, 90, 90, 4, 30) = 0", "response(2, 0) = 9",
                "response(2, 1) = 35").end();
        Run.of("one above that is one release more",
                "add(1, 8, 8, 4, 0) = 0", "add(2, 90, 90, 5, 30) = 0", "response(2, 0) = 13",
                "response(2, 1) = 38").end();
        Run.of("a high task ahead counts by its high budget and a low one by its low, one behind it by none",
                "add(1, 50, 20, 2, 7) = 0", "add(2, 50, 30, 3, 0) = 0", "add(3, 50, 40, 4, 11) = 0",
                "add(4, 50, 50, 1, 9) = 0", "response(1, 1) = 7", "response(2, 1) = NONE",
                "response(3, 0) = 9", "response(3, 1) = 21", "response(4, 1) = 30").end();
    }

    private static void boundOfLeastBudgets() {
        Run.of("a high budget of 1 makes a high task: it counts by R, and not as a low one too",
                "add(1, 5, 5, 1, 1) = 0", "add(2, 90, 90, 3, 8) = 0", "response(1, 1) = 1", "response(2, 0) = 4",
                "response(2, 1) = 10").end();
        Run.of("a low task of the same numbers counts by the low response",
                "add(1, 5, 5, 1, 0) = 0", "add(2, 90, 90, 3, 8) = 0", "response(1, 1) = NONE", "response(2, 0) = 4",
                "response(2, 1) = 9").end();
    }

    private static void fits() {
        Run.of("Either FITS, if it is not above the deadline: a low response",
                "add(1, 20, 4, 5, 0) = 1", "add(1, 20, 5, 5, 0) = 0", "add(2, 20, 10, 6, 0) = 2",
                "add(2, 20, 11, 6, 0) = 0").end();
        Run.of("Either FITS, if it is not above the deadline: a bound",
                "add(1, 20, 8, 5, 9) = -1", "add(1, 20, 9, 5, 9) = 0", "add(2, 20, 18, 1, 10) = -2",
                "add(2, 20, 19, 1, 10) = 0").end();
        Run.of("not above the deadline, where the period would hold it",
                "add(1, 100, 50, 20, 0) = 0", "add(2, 100, 50, 31, 0) = 2", "add(2, 100, 50, 30, 0) = 0").end();
    }

    private static void place() {
        Run.of("directly behind the last task there whose deadline is not longer",
                "add(1, 90, 30, 1, 0) = 0", "add(2, 90, 40, 1, 0) = 0", "add(3, 90, 39, 1, 0) = 0",
                "about(1, 1) = 0", "about(3, 1) = 1", "about(2, 1) = 2").end();
        Run.of("not longer: behind all with the same one",
                "add(3, 90, 30, 1, 0) = 0", "add(2, 90, 30, 1, 0) = 0", "add(4, 90, 40, 1, 0) = 0",
                "add(1, 90, 30, 1, 0) = 0", "about(3, 1) = 0", "about(2, 1) = 1", "about(1, 1) = 2",
                "about(4, 1) = 3").end();
        Run.of("the last place, if all are shorter",
                "add(3, 90, 30, 1, 0) = 0", "add(2, 90, 40, 1, 0) = 0", "add(1, 90, 41, 1, 0) = 0",
                "about(1, 1) = 2").end();
        Run.of("(the first place, if there is none)",
                "add(1, 90, 30, 1, 0) = 0", "about(1, 1) = 0", "add(2, 90, 29, 1, 0) = 0", "about(2, 1) = 0",
                "about(1, 1) = 1").end();
        Run.of("by deadlines, not by periods or budgets",
                "add(1, 10, 10, 1, 0) = 0", "add(2, 90, 9, 5, 0) = 0", "about(2, 1) = 0", "about(1, 1) = 1").end();
    }

    private static void admitting() {
        Run.of("the low responses of all known tasks fit, with it: one behind it too",
                "add(1, 50, 20, 10, 0) = 0", "add(2, 50, 30, 20, 0) = 0", "add(3, 50, 10, 1, 0) = 2",
                "add(3, 50, 40, 10, 0) = 0").end();
        Run.of("one that is waiting counts",
                "add(1, 50, 20, 10, 0) = 0", "tick() = 0", "release(1, 2) = 1", "add(2, 50, 30, 20, 0) = 0",
                "about(2, 0) = NONE", "add(3, 50, 30, 1, 0) = 3", "add(3, 50, 31, 1, 0) = 0").end();
        Run.of("one that is leaving counts, till it is gone",
                "add(1, 50, 20, 10, 0) = 0", "tick() = 0", "release(1, 2) = 1", "remove(1) = false",
                "add(2, 50, 20, 11, 0) = 2", "tick() = 1", "add(2, 50, 20, 11, 0) = 2", "tick() = 1",
                "add(2, 50, 20, 11, 0) = 0").end();
        Run.of("the bounds of all high ones: one behind it too, and none of a low one",
                "add(1, 50, 20, 5, 19) = 0", "add(2, 50, 40, 5, 0) = 0", "add(3, 50, 10, 2, 0) = -1",
                "add(3, 50, 10, 1, 0) = 0", "response(1, 1) = 20").end();
        Run.of("it is waiting; a refused one changes no plan",
                "add(1, 50, 20, 10, 0) = 0", "add(2, 50, 30, 20, 0) = 0", "tick() = 0",
                "add(3, 50, 10, 1, 0) = 2", "about(1, 1) = 0", "about(2, 1) = 1", "response(2, 0) = 30",
                "count(4) = 2", "tick() = 0", "count(5) = 2", "add(3, 50, 50, 1, 0) = 0", "about(3, 0) = NONE").end();
    }

    private static void whoseWitness() {
        Run.of("the first task of the plan whose low response did not fit: the new one",
                "add(1, 20, 10, 5, 0) = 0", "add(2, 20, 12, 8, 0) = 2", "witness(0, 1) = 1", "witness(1, 1) = 2",
                "witness(2, 1) = NSE").end();
        Run.of("or one behind the new one, not the last one, nor any behind it",
                "add(1, 90, 10, 5, 0) = 0", "add(2, 90, 20, 15, 0) = 0", "add(3, 90, 30, 10, 0) = 0",
                "add(4, 90, 5, 1, 0) = 2", "witness(0, 1) = 4", "witness(1, 1) = 1", "witness(2, 1) = 2",
                "witness(3, 1) = NSE").end();
        Run twelve = Run.of("or the last one of twelve");
        for (int id = 1; id <= 11; id++) {
            twelve.then("add(" + id + ", 90, 12, 1, 0) = 0");
        }
        twelve.then("add(12, 90, 12, 2, 0) = 12", "witness(0, 1) = 1", "witness(10, 1) = 11", "witness(11, 1) = 12",
                "witness(11, 0) = 0", "witness(12, 0) = NSE", "count(4) = 11").end();
        Run.of("or the only one",
                "add(7, 90, 3, 4, 0) = 7", "witness(0, 0) = 0", "witness(0, 1) = 7", "witness(1, 1) = NSE").end();
    }

    private static void releasesOfTheWitness() {
        Run.of("as long as they are before its deadline: not at it",
                "add(1, 6, 6, 3, 0) = 0", "add(2, 20, 12, 7, 0) = 2",
                "witness(0, 0) = 0", "witness(1, 0) = 0", "witness(2, 0) = 6", "witness(2, 1) = 1",
                "witness(3, 0) = NSE").end();
        Run.of("as long as they are before its deadline: one before it",
                "add(1, 6, 6, 3, 0) = 0", "add(2, 20, 13, 8, 0) = 2", "witness(2, 0) = 6", "witness(3, 0) = 12",
                "witness(3, 1) = 1", "witness(4, 0) = NSE").end();
        Run.of("each at 0 and then once a period, by its own, and before the deadline of that one alone",
                "add(1, 5, 5, 2, 0) = 0", "add(2, 9, 9, 2, 0) = 0", "add(3, 90, 16, 8, 0) = 3",
                "witness(0, 0) = 0", "witness(0, 1) = 1", "witness(1, 0) = 0", "witness(1, 1) = 2",
                "witness(2, 0) = 0", "witness(2, 1) = 3", "witness(3, 0) = 5", "witness(3, 1) = 1",
                "witness(4, 0) = 9", "witness(4, 1) = 2", "witness(5, 0) = 10", "witness(5, 1) = 1",
                "witness(6, 0) = 15", "witness(6, 1) = 1", "witness(7, 0) = NSE").end();
        Run.of("at one time by the plan",
                "add(9, 4, 4, 1, 0) = 0", "add(3, 8, 5, 1, 0) = 0", "add(5, 8, 8, 1, 0) = 0",
                "add(1, 90, 10, 9, 0) = 1", "witness(0, 1) = 9", "witness(1, 1) = 3", "witness(2, 1) = 5",
                "witness(3, 1) = 1", "witness(4, 0) = 4", "witness(4, 1) = 9", "witness(5, 0) = 8",
                "witness(5, 1) = 9", "witness(6, 0) = 8", "witness(6, 1) = 3", "witness(7, 0) = 8",
                "witness(7, 1) = 5", "witness(8, 0) = NSE").end();
        Run.of("a deadline of 1 leaves the releases at 0",
                "add(1, 1, 1, 1, 0) = 0", "add(2, 1, 1, 1, 0) = 2", "witness(0, 1) = 1", "witness(1, 1) = 2",
                "witness(1, 0) = 0", "witness(2, 0) = NSE").end();
        Run.of("the longest witness there is",
                "add(1, 1, 1, 1, 0) = 0", "add(2, 1000, 1000, 1, 0) = 2", "witness(1, 1) = 2", "witness(2, 0) = 1",
                "witness(2, 1) = 1", "witness(512, 0) = 511", "witness(513, 0) = 512", "witness(1000, 0) = 999",
                "witness(1000, 1) = 1", "witness(1001, 0) = NSE").end();
    }

    private static void latestWitness() {
        Run.of("THE WITNESS, of the latest add() that a low response refused: one of a bound leaves it",
                "add(1, 20, 10, 11, 0) = 1", "witness(0, 1) = 1", "add(2, 20, 10, 5, 11) = -2",
                "witness(0, 1) = 1", "witness(1, 0) = NSE").end();
        Run.of("one that was admitted leaves it, and so do a remove and a tick",
                "add(1, 20, 10, 11, 0) = 1", "add(2, 20, 10, 5, 0) = 0", "remove(2) = true", "tick() = 0",
                "assign() = true", "witness(0, 1) = 1", "witness(1, 0) = NSE").end();
        Run.of("one that threw leaves it",
                "add(2, 20, 10, 1, 0) = 0", "add(1, 20, 10, 11, 0) = 1", "add(3, 20, 21, 5, 0) = IAE",
                "add(2, 20, 10, 99, 0) = ISE", "witness(0, 1) = 2", "witness(1, 1) = 1",
                "witness(2, 0) = NSE").end();
        Run.of("a later one takes its place, be it shorter",
                "add(1, 5, 5, 2, 0) = 0", "add(2, 90, 30, 50, 0) = 2", "witness(6, 0) = 25", "witness(7, 0) = NSE",
                "add(3, 90, 4, 5, 0) = 3", "witness(0, 1) = 3", "witness(1, 0) = NSE").end();
        Run.of("it is of what was then: a task that changes since does not change it",
                "add(1, 6, 6, 3, 0) = 0", "add(2, 20, 12, 7, 0) = 2", "remove(1) = true", "add(1, 3, 3, 1, 0) = 0",
                "add(2, 90, 90, 2, 0) = 0", "witness(0, 1) = 1", "witness(1, 1) = 2", "witness(2, 0) = 6",
                "witness(3, 0) = NSE").end();
    }

    private static void exceptions() {
        Run.of("NoSuchElementException, then IllegalArgumentException",
                "release(1, 0) = NSE", "response(1, 2) = NSE", "about(1, 9) = NSE", "witness(0, 2) = NSE",
                "add(1, 20, 20, 2, 0) = 0", "release(1, 0) = NSE", "release(1, 3) = NSE", "response(1, 2) = IAE",
                "about(1, 9) = IAE", "add(2, 20, 1, 2, 0) = 2", "witness(0, 2) = IAE", "witness(1, 2) = NSE",
                "tick() = 0", "release(1, 0) = IAE", "release(1, 3) = IAE").end();
        Run.of("IllegalArgumentException, then IllegalStateException",
                "add(1, 20, 20, 2, 0) = 0", "add(1, 20, 21, 2, 0) = IAE", "add(1, 20, 20, 2, 0) = ISE",
                "tick() = 0", "add(1, 20, 20, 2, 1) = IAE", "add(1, 20, 20, 2, 0) = ISE", "release(1, 2) = 1",
                "release(1, 3) = IAE", "release(1, 2) = ISE", "remove(1) = false", "add(1, 0, 20, 2, 1) = IAE",
                "add(1, 20, 20, 2, 0) = ISE", "release(1, 0) = IAE", "release(1, 1) = ISE", "remove(1) = ISE").end();
        Run.of("Such a call changes nothing: amid jobs, in high mode, with a witness",
                "add(1, 50, 10, 1, 3) = 0", "add(2, 50, 20, 2, 0) = 0", "add(3, 50, 30, 4, 8) = 0", "tick() = 0",
                "add(4, 50, 10, 11, 0) = 4", "release(2, 2) = 1", "release(3, 8) = 1", "tick() = 2",
                "release(1, 3) = 1", "tick() = 1", "count(2) = 1", "remove(3) = false", "add(5, 50, 50, 1, 0) = 0",
                "add(0, 50, 10, 1, 3) = IAE", "add(6, 50, 10, 99, 98) = IAE", "add(1, 50, 10, 1, 3) = ISE",
                "add(3, 50, 10, 99, 0) = ISE", "remove(6) = NSE", "remove(3) = ISE", "release(6, 1) = NSE",
                "release(5, 1) = NSE", "release(1, 4) = IAE", "release(1, 3) = ISE", "release(2, 3) = IAE",
                "release(2, 2) = ISE", "release(3, 8) = ISE", "run(-1) = IAE", "run(1001) = IAE",
                "response(6, 0) = NSE", "response(1, 2) = IAE", "ended(1, 2) = NSE", "about(6, 0) = NSE",
                "about(1, 9) = IAE", "witness(9, 0) = NSE", "witness(0, 2) = IAE", "trace(256) = NSE",
                "changed(1) = NSE", "count(9) = IAE").end();
    }
}
