/** The sentences of the promises 1 to 14 that name a boundary case: a run of calls for each. */
public final class EdgesTest {
    public static void main(String[] args) {
        newObject();
        addTakesTheEdges();
        addRefusesBeyondThem();
        addOfAKnownOne();
        addAnswers();
        remove();
        release();
        releaseDemands();
        releasePeriods();
        tick();
        run();
        assign();
        response();
        ended();
        endedWrapsAround();
        aboutPlaces();
        aboutJobs();
        aboutNextRelease();
        aboutDeadlines();
        aboutWrong();
        witness();
        trace();
        traceWrapsAround();
        changed();
        changedWrapsAround();
        countTicks();
        countTasksAndJobs();
        countWrong();
        Check.end();
    }

    private static void newObject() {
        Run tasks = Run.of("1: No tasks", "count(4) = 0", "count(5) = 0", "count(6) = 0", "count(7) = 0");
        for (int id = 1; id <= 12; id++) {
            tasks.then("about(" + id + ", 0) = NSE", "response(" + id + ", 0) = NSE", "ended(" + id + ", 1) = NSE",
                    "release(" + id + ", 1) = NSE", "remove(" + id + ") = NSE");
        }
        tasks.end();
        Run.of("1: time 0", "count(0) = 0", "count(1) = 0", "count(8) = 0", "trace(0) = NSE").end();
        Run.of("1: low mode", "count(2) = 0", "count(3) = 0", "changed(0) = NSE").end();
        Run.of("1: no witness", "witness(0, 0) = NSE", "witness(0, 1) = NSE").end();
    }

    private static void addTakesTheEdges() {
        Run.of("2: id 1", "add(1, 500, 400, 10, 20) = 0").end();
        Run.of("2: id 12", "add(12, 500, 400, 10, 20) = 0").end();
        Run.of("2: period 1, deadline 1", "add(1, 1, 1, 1, 0) = 0", "response(1, 0) = 1").end();
        Run.of("2: period 1000", "add(1, 1000, 400, 10, 20) = 0").end();
        Run.of("2: deadline as the period", "add(1, 1000, 1000, 10, 20) = 0").end();
        Run.of("2: deadline 1", "add(1, 500, 1, 1, 1) = 0").end();
        Run.of("2: low 1", "add(1, 500, 400, 1, 20) = 0", "response(1, 0) = 1").end();
        Run.of("2: low 100", "add(1, 500, 400, 100, 0) = 0", "response(1, 0) = 100").end();
        Run.of("2: high as low", "add(1, 500, 400, 100, 100) = 0", "response(1, 1) = 100").end();
        Run.of("2: high 200", "add(1, 500, 400, 100, 200) = 0", "response(1, 1) = 200").end();
        Run.of("2: (high = 0: a low one)", "add(1, 500, 400, 100, 0) = 0", "response(1, 1) = NONE").end();
    }

    private static void addRefusesBeyondThem() {
        wrongToAdd("id is not 1 .. 12", "0", "13", "-1", "least", "greatest");
        for (String period : new String[] {"0", "1001", "-1", "least", "greatest"}) {
            Run.of("2: period not 1 .. 1000: " + period, "add(1, " + period + ", 1, 1, 0) = IAE", "count(4) = 0").end();
        }
        for (String deadline : new String[] {"0", "501", "-1", "1000", "least", "greatest"}) {
            Run.of("2: deadline not 1 .. period: " + deadline, "add(1, 500, " + deadline + ", 1, 0) = IAE",
                    "count(4) = 0").end();
        }
        for (String low : new String[] {"0", "101", "-1", "least", "greatest"}) {
            Run.of("2: low not 1 .. 100: " + low, "add(1, 500, 400, " + low + ", 0) = IAE",
                    "add(1, 500, 400, " + low + ", 150) = IAE", "count(4) = 0").end();
        }
        for (String high : new String[] {"1", "9", "201", "-1", "least", "greatest"}) {
            Run.of("2: high not 0 and not low .. 200: " + high, "add(1, 500, 400, 10, " + high + ") = IAE",
                    "count(4) = 0").end();
        }
        Run.of("2: a period that is wrong, though its deadline is not above it", "add(1, 1001, 1001, 1, 0) = IAE",
                "add(1, 0, 0, 1, 0) = IAE").end();
        Run.of("2: what would not be admitted is still wrong first", "add(1, 500, 400, 101, 0) = IAE",
                "add(1, 50, 40, 90, 201) = IAE", "witness(0, 0) = NSE").end();
    }

    private static void wrongToAdd(String sentence, String... ids) {
        for (String id : ids) {
            Run.of("2: " + sentence + ": " + id, "add(" + id + ", 500, 400, 10, 20) = IAE", "count(4) = 0").end();
        }
    }

    private static void addOfAKnownOne() {
        Run.of("2: IllegalStateException: id is known, though waiting",
                "add(1, 20, 20, 2, 0) = 0", "add(1, 20, 20, 2, 0) = ISE", "add(1, 30, 10, 99, 0) = ISE",
                "response(1, 0) = 2", "witness(0, 0) = NSE").end();
        Run.of("2: id is known, in force",
                "add(1, 20, 20, 2, 0) = 0", "tick() = 0", "add(1, 30, 30, 3, 0) = ISE", "response(1, 0) = 2").end();
        Run.of("2: id is known, though leaving, till it is gone",
                "add(1, 20, 20, 2, 0) = 0", "tick() = 0", "release(1, 1) = 1", "remove(1) = false",
                "add(1, 30, 30, 3, 0) = ISE", "tick() = 1", "add(1, 30, 30, 3, 0) = 0", "response(1, 0) = 3").end();
        Run.of("2: a refused one is not known",
                "add(1, 20, 10, 11, 0) = 1", "add(1, 20, 10, 11, 0) = 1", "add(1, 20, 10, 5, 11) = -1",
                "add(1, 20, 10, 10, 0) = 0").end();
    }

    private static void addAnswers() {
        Run.of("2: the first task of the plan, with this one, whose low response does not fit",
                "add(1, 90, 20, 10, 0) = 0", "add(2, 90, 30, 20, 0) = 0", "add(3, 90, 31, 1, 0) = 0",
                "add(4, 90, 15, 1, 0) = 2", "add(4, 90, 10, 11, 0) = 4", "add(4, 90, 32, 2, 0) = 4",
                "add(4, 90, 32, 1, 0) = 0").end();
        Run.of("2: or, if these fit, minus the first one whose bound does not",
                "add(1, 90, 20, 1, 10) = 0", "add(2, 90, 30, 1, 20) = 0", "add(3, 90, 40, 1, 10) = 0",
                "add(4, 90, 15, 1, 0) = -2", "add(4, 90, 10, 1, 11) = -4", "add(4, 90, 35, 1, 6) = -4",
                "add(4, 90, 35, 1, 5) = -3").end();
        Run.of("2: a low response far behind goes ahead of a bound in front",
                "add(1, 90, 20, 1, 20) = 0", "add(2, 90, 30, 29, 0) = 0", "add(3, 90, 10, 1, 0) = 2",
                "add(3, 90, 10, 1, 11) = 2", "witness(0, 1) = 3").end();
        Run.of("2: a task that cannot be added at all, however long it is waited for",
                "add(1, 1, 1, 1, 0) = 0", "add(2, 1000, 1000, 1, 0) = 2", "add(2, 1000, 1000, 100, 200) = 2").end();
        Run.of("2: nor one whose bound grows without end",
                "add(1, 2, 2, 1, 2) = 0", "add(2, 1000, 1000, 1, 1) = -2", "add(2, 1000, 1000, 1, 0) = 0").end();
    }

    private static void remove() {
        Run.of("3: whether it is known no more already: a waiting one",
                "add(1, 20, 20, 2, 0) = 0", "remove(1) = true", "count(4) = 0").end();
        Run.of("3: one with a job", "add(1, 20, 20, 2, 0) = 0", "tick() = 0", "release(1, 1) = 1",
                "remove(1) = false", "count(4) = 1", "about(1, 7) = 1").end();
        Run.of("3: NoSuchElementException",
                "remove(1) = NSE", "add(1, 20, 20, 2, 0) = 0", "remove(2) = NSE", "remove(0) = NSE",
                "remove(13) = NSE", "remove(least) = NSE", "remove(greatest) = NSE", "remove(1) = true",
                "remove(1) = NSE").end();
        Run.of("3: IllegalStateException: it is leaving",
                "add(1, 20, 20, 2, 0) = 0", "tick() = 0", "release(1, 2) = 1", "remove(1) = false",
                "remove(1) = ISE", "tick() = 1", "remove(1) = ISE", "tick() = 1", "remove(1) = NSE").end();
    }

    private static void release() {
        Run.of("4: its number", "add(1, 2, 2, 1, 0) = 0", "tick() = 0", "release(1, 1) = 1", "run(2) = 1",
                "release(1, 1) = 2", "run(2) = 1", "release(1, 1) = 3").end();
        Run.of("4: 0 if it is dropped, and the next number is not moved by it",
                "add(1, 9, 9, 1, 2) = 0", "add(2, 10, 10, 1, 0) = 0", "tick() = 0", "release(2, 1) = 1",
                "run(9) = 8", "release(1, 2) = 1", "tick() = 1", "release(2, 1) = 0", "release(2, 1) = 0",
                "about(2, 4) = 2", "run(2) = 1", "release(2, 1) = 2").end();
        Run.of("4: NoSuchElementException: also, if it is not in force",
                "release(1, 1) = NSE", "add(1, 20, 20, 2, 0) = 0", "release(1, 1) = NSE", "tick() = 0",
                "release(1, 1) = 1", "add(2, 20, 20, 2, 0) = 0", "release(2, 1) = NSE", "tick() = 1",
                "release(2, 1) = NSE", "release(0, 1) = NSE", "release(13, 1) = NSE", "release(least, 1) = NSE",
                "release(greatest, 1) = NSE", "tick() = 0", "release(2, 1) = 1").end();
        Run.of("4: IllegalStateException: it is leaving",
                "add(1, 20, 20, 10, 0) = 0", "add(2, 30, 30, 2, 0) = 0", "tick() = 0", "release(2, 2) = 1",
                "release(1, 10) = 1", "remove(2) = false", "release(2, 1) = ISE", "tick() = 1",
                "release(2, 1) = ISE", "run(11) = 0", "release(2, 1) = NSE").end();
    }

    private static void releaseDemands() {
        Run.of("4: demand is not 1 .. its greatest budget: of a low one its low budget",
                "add(1, 20, 20, 3, 0) = 0", "tick() = 0", "release(1, 0) = IAE", "release(1, 4) = IAE",
                "release(1, -1) = IAE", "release(1, least) = IAE", "release(1, greatest) = IAE",
                "release(1, 3) = 1", "run(20) = 17", "release(1, 1) = 2").end();
        Run.of("4: demand is not 1 .. its greatest budget: of a high one its high budget",
                "add(1, 20, 20, 3, 7) = 0", "tick() = 0", "release(1, 0) = IAE", "release(1, 8) = IAE",
                "release(1, 7) = 1", "run(20) = 13", "release(1, 1) = 2").end();
        Run.of("4: the greatest demand of all",
                "add(1, 1000, 1000, 100, 200) = 0", "tick() = 0", "release(1, 201) = IAE", "release(1, 200) = 1",
                "run(99) = 0", "count(2) = 0", "tick() = 1", "count(2) = 1", "run(100) = 0", "ended(1, 1) = 201").end();
        Run.of("4: in high mode a wrong demand of a low task is wrong, not dropped",
                "add(1, 20, 10, 1, 3) = 0", "add(2, 20, 20, 3, 0) = 0", "tick() = 0", "release(1, 3) = 1",
                "tick() = 1", "release(2, 0) = IAE", "release(2, 4) = IAE", "about(2, 4) = 0", "release(2, 3) = 0",
                "about(2, 4) = 1").end();
    }

    private static void releasePeriods() {
        Run.of("4: its period has not passed since its latest job was released",
                "add(1, 10, 5, 2, 0) = 0", "run(3) = 3", "release(1, 2) = 1", "release(1, 2) = ISE", "run(9) = 7",
                "count(0) = 12", "release(1, 2) = ISE", "tick() = 0", "release(1, 2) = 2", "release(1, 2) = ISE").end();
        Run.of("4: by the period, not by the deadline",
                "add(1, 10, 5, 2, 0) = 0", "tick() = 0", "release(1, 2) = 1", "run(5) = 3", "release(1, 2) = ISE",
                "run(5) = 5", "release(1, 2) = 2").end();
        Run.of("4: since its latest job, not since its first",
                "add(1, 10, 5, 2, 0) = 0", "tick() = 0", "release(1, 2) = 1", "run(15) = 13", "release(1, 2) = 2",
                "run(5) = 3", "release(1, 2) = ISE", "run(5) = 5", "release(1, 2) = 3").end();
        Run.of("4: a job given up was released: its period counts",
                "add(1, 30, 10, 1, 2) = 0", "add(2, 10, 10, 2, 0) = 0", "tick() = 0", "release(2, 2) = 1",
                "release(1, 2) = 1", "run(4) = 2", "ended(2, 1) = GIVEN_UP", "release(2, 2) = ISE", "run(6) = 6",
                "release(2, 2) = 2").end();
        Run.of("4: a release that was dropped is no job: no period counts from it",
                "add(1, 30, 10, 1, 2) = 0", "add(2, 10, 10, 2, 0) = 0", "tick() = 0", "release(1, 2) = 1",
                "tick() = 1", "release(2, 2) = 0", "run(2) = 1", "release(2, 2) = 1").end();
        Run.of("4: in high mode a low task is too early still, not dropped",
                "add(1, 30, 10, 1, 4) = 0", "add(2, 10, 9, 2, 0) = 0", "tick() = 0", "release(2, 1) = 1",
                "tick() = 2", "release(1, 4) = 1", "tick() = 1", "release(2, 1) = ISE", "about(2, 4) = 0").end();
        Run.of("4: period 1: one job a tick",
                "add(1, 1, 1, 1, 0) = 0", "tick() = 0", "release(1, 1) = 1", "release(1, 1) = ISE", "tick() = 1",
                "release(1, 1) = 2", "tick() = 1", "tick() = 0", "release(1, 1) = 3").end();
        Run.of("4: period 1000",
                "add(1, 1000, 1000, 1, 0) = 0", "tick() = 0", "release(1, 1) = 1", "run(999) = 998",
                "release(1, 1) = ISE", "tick() = 0", "release(1, 1) = 2").end();
    }

    private static void tick() {
        Run.of("5: 0 if it was idle: of a new object too",
                "tick() = 0", "add(1, 20, 20, 2, 0) = 0", "tick() = 0", "tick() = 0", "count(1) = 3").end();
        Run.of("5: the task whose job ran",
                "add(12, 20, 20, 2, 0) = 0", "tick() = 0", "release(12, 2) = 1", "tick() = 12", "tick() = 12",
                "tick() = 0").end();
        Run.of("5: the task whose job ran, though it is gone behind the tick",
                "add(3, 20, 20, 2, 0) = 0", "tick() = 0", "release(3, 1) = 1", "remove(3) = false", "tick() = 3",
                "count(4) = 0", "trace(0) = 3").end();
        Run.of("5: the tick that changes the mode too",
                "add(3, 20, 20, 1, 2) = 0", "tick() = 0", "release(3, 2) = 1", "tick() = 3", "count(2) = 1").end();
    }

    private static void run() {
        Run.of("6: n is not 0 .. 1000", "run(-1) = IAE", "run(1001) = IAE", "run(least) = IAE",
                "run(greatest) = IAE", "count(0) = 0").end();
        Run.of("6: n 0", "run(0) = 0", "count(0) = 0", "trace(0) = NSE").end();
        Run.of("6: n 1", "run(1) = 1", "count(0) = 1").end();
        Run.of("6: n 1000", "run(1000) = 1000", "count(0) = 1000", "count(1) = 1000").end();
        Run.of("6: how many of them were idle, of these ticks alone",
                "run(5) = 5", "add(1, 20, 20, 4, 0) = 0", "run(2) = 2", "release(1, 4) = 1", "run(3) = 0",
                "run(3) = 2", "count(1) = 9").end();
        Run.of("6: all the rules of a tick hold in it",
                "add(1, 20, 10, 1, 3) = 0", "add(2, 20, 20, 2, 0) = 0", "run(1) = 1", "release(1, 3) = 1",
                "release(2, 2) = 1", "remove(2) = false", "add(3, 40, 40, 1, 0) = 0", "run(5) = 2",
                "count(2) = 0", "count(3) = 1", "changed(0) = 2", "count(7) = 1", "about(2, 0) = NSE",
                "about(3, 0) = 1", "ended(1, 1) = 4", "trace(0) = 0", "trace(1) = 0", "trace(2) = 1").end();
    }

    private static void assign() {
        Run.of("7: no tasks, no place: true", "assign() = true", "count(4) = 0").end();
        Run.of("7: one task", "add(1, 20, 20, 20, 0) = 0", "assign() = true", "about(1, 1) = 0").end();
        Run run = Run.of("7: the one that is last in the present plan of those that pass there",
                "add(1, 90, 50, 1, 2) = 0", "add(2, 90, 50, 1, 0) = 0", "add(3, 90, 50, 1, 2) = 0",
                "add(4, 90, 49, 1, 0) = 0", "assign() = true");
        int[] plan = {4, 1, 2, 3};
        for (int place = 0; place < plan.length; place++) {
            run.then("about(" + plan[place] + ", 1) = " + place, "about(" + plan[place] + ", 0) = NONE");
        }
        run.end();
        Run.of("7: of known tasks: not of one that was refused or is gone",
                "add(1, 90, 50, 10, 0) = 0", "add(2, 90, 40, 10, 0) = 0", "add(3, 90, 30, 31, 0) = 3",
                "assign() = true", "count(4) = 2", "about(3, 1) = NSE", "add(3, 90, 30, 10, 0) = 0", "remove(2) = true",
                "assign() = true", "count(4) = 2", "about(3, 1) = 0", "about(1, 1) = 1", "about(2, 1) = NSE").end();
        Run twelve = Run.of("7: twelve tasks, each at its deadline");
        for (int id = 1; id <= 12; id++) {
            twelve.then("add(" + id + ", 60, " + 5 * id + ", 5, " + (id == 1 ? 5 : 0) + ") = 0");
        }
        twelve.then("assign() = true");
        for (int id = 1; id <= 12; id++) {
            twelve.then("about(" + id + ", 1) = " + (id - 1), "response(" + id + ", 0) = " + 5 * id);
        }
        twelve.end();
        Run.of("7: the order is not touched by it, nor a waiting or a leaving task",
                "add(1, 50, 50, 5, 0) = 0", "add(2, 50, 40, 5, 0) = 0", "tick() = 0", "release(1, 3) = 1",
                "release(2, 3) = 1", "remove(2) = false", "add(3, 50, 20, 5, 0) = 0", "assign() = true",
                "about(3, 1) = 0", "about(2, 1) = 1", "about(1, 1) = 2", "about(3, 0) = NONE", "about(2, 0) = 0",
                "about(1, 0) = 1", "about(2, 7) = 1", "tick() = 2", "assign() = true", "count(0) = 2").end();
    }

    private static void response() {
        Run.of("8: (NONE for a low one)",
                "add(1, 50, 50, 5, 0) = 0", "add(2, 50, 50, 5, 5) = 0", "response(1, 0) = 5", "response(1, 1) = NONE",
                "response(2, 0) = 10", "response(2, 1) = 10").end();
        Run.of("8: NoSuchElementException",
                "response(1, 0) = NSE", "add(1, 50, 50, 5, 0) = 0", "response(2, 0) = NSE", "response(0, 0) = NSE",
                "response(13, 1) = NSE", "response(least, 0) = NSE", "response(greatest, 0) = NSE",
                "remove(1) = true", "response(1, 0) = NSE").end();
        Run.of("8: IllegalArgumentException: none of these",
                "add(1, 50, 50, 5, 0) = 0", "add(2, 50, 50, 5, 6) = 0", "response(1, -1) = IAE", "response(1, 2) = IAE",
                "response(2, -1) = IAE", "response(2, 2) = IAE", "response(1, least) = IAE",
                "response(1, greatest) = IAE").end();
        Run.of("8: by the plan as it is: with those that wait, and not by the order",
                "add(1, 50, 50, 5, 0) = 0", "tick() = 0", "release(1, 2) = 1", "response(1, 0) = 5",
                "add(2, 50, 20, 7, 0) = 0", "response(1, 0) = 12", "response(2, 0) = 7", "remove(2) = true",
                "response(1, 0) = 5").end();
        Run.of("8: by the plan as it is: with those that leave, till they are gone",
                "add(1, 50, 20, 5, 9) = 0", "add(2, 50, 50, 7, 8) = 0", "tick() = 0", "release(1, 1) = 1",
                "remove(1) = false", "response(2, 0) = 12", "response(2, 1) = 17", "response(1, 1) = 9",
                "tick() = 1", "response(2, 0) = 7", "response(2, 1) = 8").end();
    }

    private static void ended() {
        Run.of("9: NONE if it is pending", "add(1, 20, 20, 2, 0) = 0", "tick() = 0", "release(1, 2) = 1",
                "ended(1, 1) = NONE", "tick() = 1", "ended(1, 1) = NONE", "tick() = 1", "ended(1, 1) = 3").end();
        Run.of("9: GIVEN_UP if it was, and for good",
                "add(1, 20, 10, 1, 2) = 0", "add(2, 20, 20, 2, 0) = 0", "tick() = 0", "release(1, 2) = 1",
                "release(2, 2) = 1", "ended(2, 1) = NONE", "tick() = 1", "ended(2, 1) = GIVEN_UP", "run(20) = 19",
                "release(2, 2) = 2", "run(2) = 0", "ended(2, 1) = GIVEN_UP", "ended(2, 2) = 24").end();
        Run.of("9: NoSuchElementException, of a task",
                "ended(1, 1) = NSE", "add(1, 20, 20, 2, 0) = 0", "add(2, 20, 20, 2, 0) = 0", "tick() = 0",
                "release(1, 2) = 1", "ended(2, 1) = NSE", "ended(3, 1) = NSE", "ended(0, 1) = NSE",
                "ended(13, 1) = NSE", "ended(least, 1) = NSE", "ended(greatest, 1) = NSE").end();
        Run.of("9: there is no job yet, and none before the first",
                "add(1, 20, 20, 2, 0) = 0", "ended(1, 1) = NSE", "ended(1, 0) = NSE", "tick() = 0",
                "ended(1, 1) = NSE", "release(1, 2) = 1", "ended(1, 1) = NONE", "ended(1, 2) = NSE",
                "ended(1, 0) = NSE", "ended(1, -1) = NSE", "ended(1, -7) = NSE", "ended(1, least) = NSE",
                "ended(1, greatest) = NSE").end();
        Run.of("9: a release that was dropped is no job",
                "add(1, 20, 10, 1, 2) = 0", "add(2, 20, 20, 2, 0) = 0", "tick() = 0", "release(1, 2) = 1",
                "tick() = 1", "release(2, 2) = 0", "ended(2, 1) = NSE", "ended(2, 0) = NSE").end();
    }

    private static void endedWrapsAround() {
        Run run = Run.of("9: none of the task's latest eight", "add(1, 4, 4, 3, 0) = 0", "tick() = 0");
        for (int job = 1; job <= 20; job++) {
            run.then("release(1, 3) = " + job, "ended(1, " + (job + 1) + ") = NSE", "ended(1, " + job + ") = NONE");
            for (int back = 1; back < 8 && back < job; back++) {
                run.then("ended(1, " + (job - back) + ") = " + 4 * (job - back));
            }
            run.then("ended(1, " + (job - 8) + ") = NSE", "run(4) = 1");
        }
        run.end();
    }

    private static void aboutPlaces() {
        Run.of("10: its place in the order (from 0 on; NONE: waiting)",
                "add(1, 50, 50, 5, 0) = 0", "about(1, 0) = NONE", "tick() = 0", "about(1, 0) = 0",
                "release(1, 2) = 1", "add(2, 50, 20, 5, 0) = 0", "about(2, 0) = NONE", "about(1, 0) = 0",
                "run(3) = 1", "about(2, 0) = 0", "about(1, 0) = 1").end();
        Run.of("10: its place in the plan",
                "add(1, 50, 50, 5, 0) = 0", "about(1, 1) = 0", "add(2, 50, 20, 5, 0) = 0", "about(1, 1) = 1",
                "about(2, 1) = 0", "remove(2) = true", "about(1, 1) = 0").end();
        Run.of("10: a leaving one has its places till it is gone",
                "add(1, 50, 20, 5, 0) = 0", "add(2, 50, 50, 5, 0) = 0", "tick() = 0", "release(2, 1) = 1",
                "remove(2) = false", "about(2, 0) = 1", "about(2, 1) = 1", "about(2, 7) = 1", "about(1, 7) = 0",
                "tick() = 2", "about(2, 0) = NSE", "about(2, 1) = NSE").end();
    }

    private static void aboutJobs() {
        Run.of("10: pending jobs, jobs released, ticks charged",
                "add(1, 10, 10, 3, 0) = 0", "about(1, 2) = 0", "about(1, 3) = 0", "about(1, 5) = 0", "tick() = 0",
                "release(1, 2) = 1", "about(1, 2) = 1", "about(1, 3) = 1", "about(1, 5) = 0", "tick() = 1",
                "about(1, 2) = 1", "about(1, 5) = 1", "tick() = 1", "about(1, 2) = 0", "about(1, 3) = 1",
                "about(1, 5) = 2", "run(8) = 8", "release(1, 3) = 2", "run(9) = 6", "about(1, 3) = 2",
                "about(1, 5) = 5").end();
        Run.of("10: a job given up was released and charged, but is pending no more",
                "add(1, 50, 20, 1, 2) = 0", "add(2, 50, 50, 5, 0) = 0", "tick() = 0", "release(2, 5) = 1",
                "run(2) = 0", "release(1, 2) = 1", "tick() = 1", "about(2, 2) = 0", "about(2, 3) = 1",
                "about(2, 4) = 0", "about(2, 5) = 2").end();
        Run.of("10: releases dropped, each of them",
                "add(1, 50, 20, 1, 2) = 0", "add(2, 50, 50, 5, 0) = 0", "about(2, 4) = 0", "tick() = 0",
                "release(1, 2) = 1", "tick() = 1", "release(2, 5) = 0", "release(2, 1) = 0", "tick() = 1",
                "release(2, 5) = 0", "about(2, 4) = 3", "about(2, 3) = 0", "about(1, 4) = 0").end();
    }

    private static void aboutNextRelease() {
        Run.of("10: the least time of its next release (0 ahead of the first)",
                "add(1, 10, 5, 2, 0) = 0", "about(1, 6) = 0", "run(30) = 30", "about(1, 6) = 0", "release(1, 2) = 1",
                "about(1, 6) = 40", "run(9) = 7", "about(1, 6) = 40", "release(1, 1) = ISE", "tick() = 0",
                "release(1, 1) = 2", "about(1, 6) = 50", "run(30) = 29", "about(1, 6) = 50").end();
        Run.of("10: a release at 0 cannot be, one at 1 is the first",
                "add(1, 10, 5, 2, 0) = 0", "tick() = 0", "release(1, 2) = 1", "about(1, 6) = 11").end();
        Run.of("10: a dropped one leaves it, one given up does not",
                "add(1, 50, 20, 1, 2) = 0", "add(2, 50, 30, 5, 0) = 0", "add(3, 50, 50, 5, 0) = 0", "tick() = 0",
                "release(3, 5) = 1", "release(1, 2) = 1", "tick() = 1", "release(2, 5) = 0", "about(2, 6) = 0",
                "about(3, 6) = 51").end();
    }

    private static void aboutDeadlines() {
        Run.of("10: its jobs that ended behind their deadlines: not one that ends at it",
                "add(1, 20, 4, 4, 0) = 0", "add(2, 20, 7, 3, 0) = 0", "tick() = 0", "release(1, 4) = 1",
                "release(2, 3) = 1", "run(4) = 0", "ended(1, 1) = 5", "about(1, 8) = 0", "run(2) = 0",
                "about(2, 8) = 0", "tick() = 2", "ended(2, 1) = 8", "about(2, 8) = 0", "run(50) = 50",
                "about(1, 8) = 0", "about(2, 8) = 0").end();
        Run.of("10: nor one that was given up",
                "add(1, 20, 4, 1, 2) = 0", "add(2, 20, 7, 3, 0) = 0", "tick() = 0", "release(1, 2) = 1",
                "release(2, 3) = 1", "run(50) = 48", "ended(2, 1) = GIVEN_UP", "about(2, 8) = 0").end();
    }

    private static void aboutWrong() {
        Run.of("10: NoSuchElementException",
                "about(1, 0) = NSE", "add(1, 50, 50, 5, 0) = 0", "about(2, 0) = NSE", "about(0, 0) = NSE",
                "about(13, 8) = NSE", "about(least, 0) = NSE", "about(greatest, 0) = NSE", "remove(1) = true",
                "about(1, 0) = NSE").end();
        Run.of("10: IllegalArgumentException: none of these",
                "add(1, 50, 50, 5, 0) = 0", "about(1, -1) = IAE", "about(1, 8) = 0", "about(1, 9) = IAE",
                "about(1, least) = IAE", "about(1, greatest) = IAE").end();
    }

    private static void witness() {
        Run.of("11: NoSuchElementException: there is none, of a new object or where all was admitted",
                "witness(0, 0) = NSE", "add(1, 50, 50, 5, 0) = 0", "witness(0, 0) = NSE", "witness(0, 1) = NSE").end();
        Run.of("11: there is none, where a bound refused alone",
                "add(1, 50, 50, 5, 51) = -1", "witness(0, 0) = NSE").end();
        Run.of("11: Of release i (from 0)",
                "add(1, 7, 6, 3, 0) = 0", "add(2, 50, 8, 6, 0) = 2", "witness(-1, 0) = NSE", "witness(0, 0) = 0",
                "witness(0, 1) = 1", "witness(1, 0) = 0", "witness(1, 1) = 2", "witness(2, 0) = 7",
                "witness(2, 1) = 1", "witness(3, 0) = NSE", "witness(3, 1) = NSE", "witness(least, 0) = NSE",
                "witness(greatest, 0) = NSE").end();
        Run.of("11: IllegalArgumentException: none of these",
                "add(1, 7, 6, 7, 0) = 1", "witness(0, -1) = IAE", "witness(0, 2) = IAE", "witness(0, least) = IAE",
                "witness(0, greatest) = IAE").end();
    }

    private static void trace() {
        Run.of("12: (0: in the latest tick); 0 if that was idle",
                "add(5, 50, 50, 2, 0) = 0", "tick() = 0", "trace(0) = 0", "release(5, 2) = 1", "trace(0) = 0",
                "tick() = 5", "trace(0) = 5", "trace(1) = 0", "run(2) = 1", "trace(0) = 0", "trace(1) = 5",
                "trace(2) = 5", "trace(3) = 0").end();
        Run.of("12: NoSuchElementException: there was no such tick",
                "trace(0) = NSE", "run(0) = 0", "trace(0) = NSE", "tick() = 0", "trace(0) = 0", "trace(1) = NSE",
                "run(9) = 9", "trace(9) = 0", "trace(10) = NSE", "trace(255) = NSE", "run(245) = 245",
                "trace(254) = 0", "trace(255) = NSE", "tick() = 0", "trace(255) = 0").end();
        Run.of("12: or k is not 0 .. 255",
                "run(1000) = 1000", "trace(-1) = NSE", "trace(255) = 0", "trace(256) = NSE", "trace(999) = NSE",
                "trace(least) = NSE", "trace(greatest) = NSE").end();
    }

    private static void traceWrapsAround() {
        Run run = Run.of("12: which task ran k ticks ago, 255 and less, while the time goes on",
                "add(1, 3, 3, 1, 0) = 0", "run(1000) = 1000", "release(1, 1) = 1", "run(255) = 254",
                "trace(254) = 1", "trace(253) = 0", "trace(255) = 0", "tick() = 0", "trace(255) = 1", "trace(254) = 0",
                "tick() = 0", "trace(255) = 0", "trace(256) = NSE");
        for (int round = 0; round < 100; round++) {
            run.then("release(1, 1) = " + (round + 2), "run(3) = 2", "trace(2) = 1");
        }
        for (int k = 246; k <= 255; k++) {
            run.then("trace(" + k + ") = " + (k % 3 == 2 ? 1 : 0));
        }
        run.end();
    }

    private static void changed() {
        Run.of("13: NoSuchElementException: there was no change",
                "changed(0) = NSE", "add(1, 50, 50, 1, 2) = 0", "tick() = 0", "release(1, 1) = 1", "run(2) = 1",
                "changed(0) = NSE").end();
        Run.of("13: (0: the latest): the time behind the tick",
                "add(1, 10, 10, 3, 4) = 0", "tick() = 0", "release(1, 4) = 1", "run(2) = 0", "changed(0) = NSE",
                "tick() = 1", "changed(0) = 4", "changed(1) = NSE", "run(10) = 9", "changed(0) = 4",
                "release(1, 4) = 2", "run(3) = 0", "changed(0) = 17", "changed(1) = 4", "changed(2) = NSE").end();
        Run.of("13: NoSuchElementException: no k",
                "add(1, 10, 10, 1, 2) = 0", "tick() = 0", "release(1, 2) = 1", "tick() = 1", "changed(-1) = NSE",
                "changed(least) = NSE", "changed(greatest) = NSE", "changed(8) = NSE", "changed(0) = 2").end();
    }

    private static void changedWrapsAround() {
        Run run = Run.of("13: of the latest eight", "add(1, 3, 3, 1, 2) = 0", "tick() = 0");
        for (int change = 1; change <= 20; change++) {
            run.then("release(1, 2) = " + change, "run(3) = 1");
            for (int k = 0; k < 8 && k < change; k++) {
                run.then("changed(" + k + ") = " + (3 * (change - k) - 1));
            }
            run.then("changed(" + Math.min(change, 8) + ") = NSE", "count(3) = " + change);
        }
        run.then("changed(9) = NSE", "changed(19) = NSE").end();
    }

    private static void countTicks() {
        Run.of("14: the time, idle ticks",
                "count(0) = 0", "count(1) = 0", "add(1, 20, 20, 2, 0) = 0", "run(3) = 3", "release(1, 2) = 1",
                "run(3) = 1", "count(0) = 6", "count(1) = 4").end();
        Run.of("14: ticks since the latest idle one: 0 just behind it",
                "add(1, 20, 20, 2, 0) = 0", "tick() = 0", "count(8) = 0", "release(1, 2) = 1", "tick() = 1",
                "count(8) = 1", "tick() = 1", "count(8) = 2", "tick() = 0", "count(8) = 0", "run(5) = 5",
                "count(8) = 0").end();
        Run.of("14: (or since the beginning)", "count(8) = 0", "run(0) = 0", "count(8) = 0", "tick() = 0",
                "count(8) = 0").end();
        Run.of("14: the mode (0 low, 1 high), changes to high mode",
                "count(2) = 0", "count(3) = 0", "add(1, 20, 20, 1, 2) = 0", "tick() = 0", "release(1, 2) = 1",
                "count(2) = 0", "tick() = 1", "count(2) = 1", "count(3) = 1", "tick() = 1", "count(2) = 1",
                "tick() = 0", "count(2) = 0", "count(3) = 1").end();
        Run long500 = Run.of("14: the greatest time that 512 calls can reach");
        for (int i = 0; i < 500; i++) {
            long500.then("run(1000)");
        }
        long500.then("count(0) = 500000", "count(1) = 500000", "count(8) = 0", "trace(255) = 0").end();
    }

    private static void countTasksAndJobs() {
        Run.of("14: known tasks, tasks in force: with those that wait, and with those that leave",
                "add(1, 50, 50, 5, 0) = 0", "count(4) = 1", "count(5) = 0", "tick() = 0", "count(5) = 1",
                "release(1, 2) = 1", "add(2, 50, 20, 5, 0) = 0", "count(4) = 2", "count(5) = 1", "remove(1) = false",
                "count(4) = 2", "count(5) = 1", "run(2) = 0", "count(4) = 1", "count(5) = 0", "tick() = 0",
                "count(5) = 1", "add(3, 50, 10, 11, 0) = 3", "count(4) = 1").end();
        Run.of("14: pending jobs, jobs given up: of all tasks, those that are gone too",
                "add(1, 50, 10, 1, 2) = 0", "add(2, 50, 20, 2, 0) = 0", "add(3, 50, 30, 2, 0) = 0", "tick() = 0",
                "count(6) = 0", "release(2, 2) = 1", "count(6) = 1", "release(3, 2) = 1", "release(1, 2) = 1",
                "count(6) = 3", "count(7) = 0", "remove(3) = false", "count(6) = 3", "tick() = 1", "count(6) = 1",
                "count(7) = 2", "tick() = 1", "count(6) = 0", "count(7) = 2", "remove(2) = true", "count(7) = 2",
                "add(2, 50, 20, 2, 0) = 0", "count(7) = 2").end();
        Run.of("14: a dropped release is neither",
                "add(1, 50, 10, 1, 2) = 0", "add(2, 50, 20, 2, 0) = 0", "tick() = 0", "release(1, 2) = 1",
                "tick() = 1", "release(2, 2) = 0", "count(6) = 1", "count(7) = 0").end();
    }

    private static void countWrong() {
        Run.of("14: IllegalArgumentException: none of these", "count(-1) = IAE", "count(8) = 0", "count(9) = IAE",
                "count(least) = IAE", "count(greatest) = IAE").end();
    }
}
