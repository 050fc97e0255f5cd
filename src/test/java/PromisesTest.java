/** Each promise by hand: ordinary inputs, the edges that the document names, and wrong inputs. */
public final class PromisesTest {
    private static final int LOWEST = Integer.MIN_VALUE;
    private static final int GREATEST = Integer.MAX_VALUE;

    public static void main(String[] args) {
        newObject();
        addRefusesWrongArguments();
        addTakesTheEdges();
        addPlacesByDeadlines();
        addRefusesByLowResponses();
        addRefusesByBounds();
        removeAtOnce();
        removeWhenItsJobEnds();
        removeWhenItsJobIsGivenUp();
        removedTaskComesBackAnew();
        release();
        releaseInHighMode();
        tickRunsByPriority();
        tickChangesTheMode();
        tickAtTheEdgeOfTheBudget();
        idleTickBringsIntoForce();
        run();
        assign();
        response();
        responseStepsOverManyReleases();
        ended();
        about();
        aboutDeadlines();
        witness();
        witnessStays();
        longWitness();
        trace();
        changed();
        count();
        Check.end();
    }

    private static void newObject() {
        MixedKernel x = new MixedKernel();
        for (int what = 0; what <= 8; what++) {
            Check.same("new count(" + what + ")", x.count(what), 0);
        }
        for (int id = 1; id <= 12; id++) {
            int task = id;
            Check.missing("new about", () -> x.about(task, 0));
        }
        Check.missing("new trace", () -> x.trace(0));
        Check.missing("new changed", () -> x.changed(0));
        Check.missing("new witness", () -> x.witness(0, 0));
    }

    private static void addRefusesWrongArguments() {
        MixedKernel x = new MixedKernel();
        int[][] wrong = {
            {0, 10, 10, 1, 0}, {13, 10, 10, 1, 0}, {LOWEST, 10, 10, 1, 0}, {GREATEST, 10, 10, 1, 0},
            {1, 0, 1, 1, 0}, {1, 1001, 10, 1, 0}, {1, LOWEST, 10, 1, 0}, {1, GREATEST, 10, 1, 0},
            {1, 10, 0, 1, 0}, {1, 10, 11, 1, 0}, {1, 10, LOWEST, 1, 0}, {1, 10, GREATEST, 1, 0},
            {1, 10, 10, 0, 0}, {1, 900, 900, 101, 0}, {1, 10, 10, LOWEST, 0}, {1, 10, 10, GREATEST, 0},
            {1, 10, 10, 5, 4}, {1, 900, 900, 5, 201}, {1, 10, 10, 5, -1}, {1, 10, 10, 5, LOWEST},
            {1, 10, 10, 5, GREATEST}};
        for (int[] w : wrong) {
            Check.badArgument("add of wrong " + java.util.Arrays.toString(w),
                    () -> x.add(w[0], w[1], w[2], w[3], w[4]));
        }
        Check.same("nothing was added", x.count(4), 0);
        Check.same("add(1)", x.add(1, 10, 10, 1, 0), 0);
        Check.badState("add of a known one", () -> x.add(1, 20, 20, 1, 0));
        Check.badArgument("a wrong argument comes first", () -> x.add(1, 20, 21, 1, 0));
        Check.same("it is as it was", x.response(1, 0), 1);
        Check.missing("no witness of a call that threw", () -> x.witness(0, 0));
    }

    private static void addTakesTheEdges() {
        MixedKernel x = new MixedKernel();
        Check.same("greatest of all", x.add(12, 1000, 1000, 100, 200), 0);
        Check.same("high as low", x.add(1, 500, 500, 1, 1), 0);
        Check.same("two known", x.count(4), 2);
        MixedKernel y = new MixedKernel();
        Check.same("least of all", y.add(1, 1, 1, 1, 0), 0);
        Check.same("no room behind it", y.add(2, 1000, 1000, 1, 0), 2);
        MixedKernel z = new MixedKernel();
        for (int id = 1; id <= 12; id++) {
            Check.same("one of twelve", z.add(id, 12, 12, 1, 0), 0);
        }
        Check.same("twelve known", z.count(4), 12);
        Check.same("the last response", z.response(12, 0), 12);
        Check.badState("one of twelve again", () -> z.add(12, 12, 12, 1, 0));
    }

    private static void addPlacesByDeadlines() {
        MixedKernel x = new MixedKernel();
        x.add(5, 100, 50, 1, 0);
        x.add(6, 100, 50, 1, 0);
        x.add(7, 100, 40, 1, 0);
        x.add(8, 100, 60, 1, 0);
        x.add(9, 100, 50, 1, 0);
        x.add(10, 100, 59, 1, 0);
        int[] due = {7, 5, 6, 9, 10, 8};
        for (int place = 0; place < due.length; place++) {
            Check.same("place of " + due[place], x.about(due[place], 1), place);
            Check.same("it is waiting", x.about(due[place], 0), MixedKernel.NONE);
        }
    }

    private static void addRefusesByLowResponses() {
        MixedKernel x = new MixedKernel();
        x.add(1, 10, 10, 5, 0);
        x.add(2, 20, 12, 6, 0);
        Check.same("it was refused itself", x.count(4), 1);
        Check.same("just fits", x.add(2, 20, 20, 10, 0), 0);
        Check.same("the one that it would push", x.add(3, 30, 4, 1, 0), 2);
        Check.same("one above the deadline", x.add(4, 100, 5, 6, 0), 4);
        Check.same("a low response goes ahead of a bound", x.add(5, 30, 4, 1, 100), 2);
        Check.same("nothing changed", x.count(4), 2);
        Check.same("its place is as it was", x.about(2, 1), 1);
    }

    private static void addRefusesByBounds() {
        MixedKernel x = new MixedKernel();
        Check.same("own bound", x.add(1, 20, 10, 3, 11), -1);
        Check.same("bound at the deadline", x.add(1, 20, 10, 3, 10), 0);
        Check.same("pushes the other's bound", x.add(2, 30, 5, 1, 0), -1);
        Check.same("behind it", x.add(3, 40, 40, 4, 20), 0);
        // 3 has 20 + 2 * 10 then, and with 4 ahead of it 2 * 1 more
        Check.same("3 at its deadline", x.response(3, 1), 40);
        Check.same("pushes 3 by its high budget", x.add(4, 20, 20, 1, 2), -3);
        Check.same("pushes 3 by its low budget", x.add(4, 40, 15, 1, 0), -3);
        Check.missing("no witness by bounds", () -> x.witness(0, 0));
        Check.same("nothing changed", x.count(4), 2);
    }

    private static void removeAtOnce() {
        MixedKernel x = new MixedKernel();
        Check.missing("remove of none", () -> x.remove(1) ? 1 : 0);
        Check.missing("remove of 13", () -> x.remove(13) ? 1 : 0);
        Check.missing("remove of 0", () -> x.remove(0) ? 1 : 0);
        Check.missing("remove of the least", () -> x.remove(LOWEST) ? 1 : 0);
        x.add(1, 20, 10, 1, 0);
        x.add(2, 20, 11, 1, 0);
        x.add(3, 20, 12, 1, 0);
        Check.same("remove of a waiting one", x.remove(2) ? 1 : 0, 1);
        Check.missing("it is known no more", () -> x.remove(2) ? 1 : 0);
        Check.same("the others keep their order", x.about(1, 1) * 10 + x.about(3, 1), 1);
        x.tick();
        Check.same("remove of one in force", x.remove(1) ? 1 : 0, 1);
        Check.same("the order", x.about(3, 0), 0);
        Check.same("the plan", x.about(3, 1), 0);
        Check.same("known", x.count(4), 1);
        Check.same("in force", x.count(5), 1);
    }

    private static void removeWhenItsJobEnds() {
        MixedKernel x = new MixedKernel();
        x.add(1, 20, 10, 3, 0);
        x.add(2, 20, 20, 3, 0);
        x.tick();
        x.release(1, 2);
        Check.same("remove with a job", x.remove(1) ? 1 : 0, 0);
        Check.same("it is leaving", x.about(1, 7), 1);
        Check.same("the other is not", x.about(2, 7), 0);
        Check.badState("remove again", () -> x.remove(1) ? 1 : 0);
        Check.badState("release of it", () -> x.release(1, 1));
        Check.badArgument("wrong demand first", () -> x.release(1, 4));
        Check.badState("it is known still", () -> x.add(1, 20, 10, 3, 0));
        Check.same("it counts still", x.response(2, 0), 6);
        Check.same("it runs", x.tick(), 1);
        Check.same("known", x.count(4), 2);
        Check.same("it ends", x.tick(), 1);
        Check.same("known no more", x.count(4), 1);
        Check.same("in force no more", x.count(5), 1);
        Check.missing("nothing about it", () -> x.ended(1, 1));
        Check.same("the other moved up", x.about(2, 0), 0);
        Check.same("its response too", x.response(2, 0), 3);
    }

    private static void removeWhenItsJobIsGivenUp() {
        MixedKernel x = new MixedKernel();
        x.add(1, 40, 20, 2, 5);
        x.add(2, 40, 30, 3, 0);
        x.add(3, 40, 40, 3, 0);
        x.tick();
        x.release(2, 3);
        x.release(3, 3);
        x.release(1, 5);
        x.remove(2);
        x.remove(1);
        x.run(2);
        Check.same("high mode", x.count(2), 1);
        Check.missing("2 is gone with its job", () -> x.about(2, 0));
        Check.same("1 has its job still", x.about(1, 2), 1);
        Check.same("3 is behind it", x.about(3, 0), 1);
        Check.same("given up", x.count(7), 2);
        x.run(3);
        Check.missing("1 is gone", () -> x.about(1, 0));
        Check.same("no idle tick yet", x.count(2), 1);
        Check.same("3 is the first", x.about(3, 0), 0);
    }

    private static void removedTaskComesBackAnew() {
        MixedKernel x = new MixedKernel();
        x.add(1, 50, 50, 3, 9);
        x.add(2, 60, 60, 3, 0);
        x.tick();
        x.release(1, 9);
        x.run(4);
        x.release(2, 1);
        x.run(5);
        Check.same("dropped", x.about(2, 4), 1);
        x.remove(1);
        x.remove(2);
        x.add(1, 100, 90, 5, 0);
        x.add(2, 100, 95, 5, 0);
        int[] due = {-1, 0, 0, 0, 0, 0, 0, 0, 0};
        for (int what = 0; what <= 8; what++) {
            Check.same("anew about(1, " + what + ")", x.about(1, what), due[what]);
        }
        Check.same("anew dropped", x.about(2, 4), 0);
        Check.missing("no job of before", () -> x.ended(1, 1));
        Check.missing("not in force", () -> x.release(1, 1));
        x.tick();
        Check.same("its first job", x.release(1, 5), 1);
        Check.badArgument("its budget now", () -> x.release(2, 6));
        Check.same("changes stay", x.count(3), 1);
    }

    private static void release() {
        MixedKernel x = new MixedKernel();
        Check.missing("release of none", () -> x.release(1, 1));
        Check.missing("release of 0", () -> x.release(0, 1));
        Check.missing("release of 13", () -> x.release(13, 1));
        x.add(1, 10, 8, 3, 0);
        x.add(2, 20, 20, 3, 7);
        Check.missing("release of a waiting one", () -> x.release(1, 1));
        Check.missing("not in force comes first", () -> x.release(1, 0));
        x.tick();
        Check.badArgument("demand 0", () -> x.release(1, 0));
        Check.badArgument("demand above low", () -> x.release(1, 4));
        Check.badArgument("demand above high", () -> x.release(2, 8));
        Check.badArgument("least demand", () -> x.release(2, LOWEST));
        Check.badArgument("greatest demand", () -> x.release(2, GREATEST));
        Check.same("low budget", x.release(1, 3), 1);
        Check.same("another", x.release(2, 1), 1);
        Check.badState("too early", () -> x.release(1, 1));
        Check.badArgument("demand first", () -> x.release(1, 4));
        x.run(3);
        x.run(6);
        Check.badState("a tick too early", () -> x.release(1, 1));
        x.tick();
        Check.same("time", x.count(0), 11);
        Check.same("just a period later", x.release(1, 1), 2);
        Check.same("released", x.about(1, 3), 2);
        x.run(10);
        Check.same("high budget", x.release(2, 7), 2);
    }

    private static void releaseInHighMode() {
        MixedKernel x = new MixedKernel();
        x.add(1, 30, 10, 2, 6);
        x.add(2, 30, 20, 3, 0);
        x.add(3, 60, 60, 2, 4);
        x.tick();
        x.release(2, 1);
        x.tick();
        x.release(1, 6);
        x.run(2);
        Check.same("high mode", x.count(2), 1);
        Check.badArgument("wrong demand in high mode", () -> x.release(2, 4));
        Check.badState("too early in high mode", () -> x.release(2, 1));
        Check.same("not dropped by these", x.about(2, 4), 0);
        Check.same("a high one is not dropped", x.release(3, 4), 1);
        Check.same("nothing is given up", x.count(7), 0);
        x.run(8);
        Check.same("time", x.count(0), 12);
        Check.same("that ended", x.ended(3, 1), 12);
        Check.same("high till it is idle", x.count(2), 1);
        MixedKernel y = new MixedKernel();
        y.add(1, 30, 10, 2, 6);
        y.add(2, 30, 20, 3, 0);
        y.tick();
        y.release(1, 6);
        y.run(3);
        Check.same("dropped", y.release(2, 3), 0);
        Check.same("dropped again", y.release(2, 3), 0);
        Check.same("drops", y.about(2, 4), 2);
        Check.same("no jobs", y.about(2, 3), 0);
        Check.same("next release", y.about(2, 6), 0);
        Check.same("pending", y.count(6), 1);
        y.run(4);
        Check.same("released behind an idle tick", y.release(2, 3), 1);
    }

    private static void tickRunsByPriority() {
        MixedKernel x = new MixedKernel();
        Check.same("idle", x.tick(), 0);
        x.add(1, 20, 20, 3, 0);
        x.add(2, 20, 10, 2, 0);
        x.add(3, 20, 15, 2, 0);
        x.tick();
        x.release(1, 3);
        Check.same("the only one", x.tick(), 1);
        x.release(3, 2);
        Check.same("a higher one", x.tick(), 3);
        x.release(2, 1);
        Check.same("the highest", x.tick(), 2);
        Check.same("back", x.tick(), 3);
        Check.same("back", x.tick(), 1);
        Check.same("back", x.tick(), 1);
        Check.same("idle", x.tick(), 0);
        Check.same("1 ended", x.ended(1, 1), 8);
        Check.same("2 ended", x.ended(2, 1), 5);
        Check.same("3 ended", x.ended(3, 1), 6);
    }

    private static void tickChangesTheMode() {
        MixedKernel x = new MixedKernel();
        x.add(1, 50, 10, 2, 0);
        x.add(2, 50, 20, 3, 6);
        x.add(3, 50, 30, 4, 0);
        x.add(4, 50, 50, 4, 8);
        x.tick();
        x.release(4, 8);
        x.run(1);
        x.release(3, 4);
        x.run(1);
        x.release(2, 6);
        x.run(2);
        x.release(1, 1);
        Check.same("1 is the first", x.tick(), 1);
        Check.same("low mode", x.count(2), 0);
        Check.same("2 comes to its low budget", x.tick(), 2);
        Check.same("high mode", x.count(2), 1);
        Check.same("when", x.changed(0), 7);
        Check.same("1 had ended", x.ended(1, 1), 6);
        Check.same("3 was given up", x.ended(3, 1), MixedKernel.GIVEN_UP);
        Check.same("2 is pending", x.ended(2, 1), MixedKernel.NONE);
        Check.same("4 is pending", x.ended(4, 1), MixedKernel.NONE);
        Check.same("given up", x.count(7), 1);
        Check.same("no idle ticks", x.run(3 + 7), 0);
        Check.same("4 passed its low budget in high mode", x.count(3), 1);
        Check.same("2 ended", x.ended(2, 1), 10);
        Check.same("4 ended", x.ended(4, 1), 17);
        Check.same("still high", x.count(2), 1);
        x.tick();
        Check.same("low behind an idle tick", x.count(2), 0);
    }

    private static void tickAtTheEdgeOfTheBudget() {
        MixedKernel x = new MixedKernel();
        x.add(1, 10, 10, 2, 3);
        x.add(2, 50, 50, 2, 2);
        x.add(3, 60, 60, 5, 0);
        x.tick();
        x.release(1, 2);
        x.release(2, 2);
        x.release(3, 5);
        Check.same("none is idle", x.run(9), 0);
        Check.same("ended just at the low budget", x.count(3), 0);
        Check.same("the low job ended", x.ended(3, 1), 10);
        x.tick();
        x.release(1, 3);
        x.run(2);
        Check.same("passes it", x.count(3), 1);
        x.run(1);
        Check.same("ended", x.ended(1, 2), 14);
        Check.same("high still", x.count(2), 1);
    }

    private static void idleTickBringsIntoForce() {
        MixedKernel x = new MixedKernel();
        x.add(1, 50, 50, 5, 0);
        x.tick();
        x.release(1, 3);
        x.tick();
        x.add(2, 50, 20, 5, 0);
        x.run(2);
        Check.same("a tick that runs brings none into force", x.about(2, 0), MixedKernel.NONE);
        Check.same("in force", x.count(5), 1);
        Check.same("its place in the plan", x.about(2, 1), 0);
        Check.same("1 in the order", x.about(1, 0), 0);
        Check.same("1 in the plan", x.about(1, 1), 1);
        Check.missing("not in force", () -> x.release(2, 1));
        x.tick();
        Check.same("in force now", x.about(2, 0), 0);
        Check.same("1 in the order now", x.about(1, 0), 1);
        Check.same("all in force", x.count(5), 2);
    }

    private static void run() {
        MixedKernel x = new MixedKernel();
        Check.badArgument("run(-1)", () -> x.run(-1));
        Check.badArgument("run(1001)", () -> x.run(1001));
        Check.badArgument("run(least)", () -> x.run(LOWEST));
        Check.badArgument("run(greatest)", () -> x.run(GREATEST));
        Check.same("run(0)", x.run(0), 0);
        Check.same("no time passed", x.count(0), 0);
        Check.same("run(1000)", x.run(1000), 1000);
        Check.same("time", x.count(0), 1000);
        x.add(1, 10, 10, 4, 0);
        x.run(1);
        x.release(1, 4);
        Check.same("run(10)", x.run(10), 6);
        Check.same("idle ticks", x.count(1), 1007);
    }

    private static void assign() {
        MixedKernel x = new MixedKernel();
        Check.same("of none", x.assign() ? 1 : 0, 1);
        x.add(1, 20, 20, 4, 0);
        x.add(2, 40, 40, 4, 12);
        x.add(3, 30, 30, 4, 0);
        x.add(4, 90, 90, 4, 9);
        Check.same("of four", x.assign() ? 1 : 0, 1);
        // whoever was admitted passes in its own place, so the last that passes is the last
        int[] due = {1, 3, 2, 4};
        for (int place = 0; place < due.length; place++) {
            Check.same("plan behind assign()", x.about(due[place], 1), place);
            Check.same("assign() brings none into force", x.about(due[place], 0), MixedKernel.NONE);
        }
        x.tick();
        x.release(3, 4);
        x.remove(3);
        Check.same("with a leaving one", x.assign() ? 1 : 0, 1);
        Check.same("it has its place", x.about(3, 1), 1);
        Check.same("its order", x.about(3, 0), 1);
        Check.same("known", x.count(4), 4);
    }

    private static void response() {
        MixedKernel x = new MixedKernel();
        Check.missing("of none", () -> x.response(1, 0));
        Check.missing("of none comes first", () -> x.response(1, 9));
        Check.missing("of 0", () -> x.response(0, 0));
        Check.missing("of 13", () -> x.response(13, 0));
        x.add(1, 10, 10, 2, 0);
        x.add(2, 25, 20, 3, 6);
        x.add(3, 100, 90, 5, 20);
        Check.badArgument("what -1", () -> x.response(1, -1));
        Check.badArgument("what 2", () -> x.response(3, 2));
        Check.same("1 low", x.response(1, 0), 2);
        Check.same("1 has no bound", x.response(1, 1), MixedKernel.NONE);
        Check.same("2 low", x.response(2, 0), 5);
        Check.same("2 bound", x.response(2, 1), 8);
        Check.same("3 low, at a whole period", x.response(3, 0), 10);
        // 20 + 2, with 6 for each 25: 28 -> 34
        Check.same("3 bound", x.response(3, 1), 34);
        x.remove(2);
        Check.same("3 low without 2", x.response(3, 0), 7);
        Check.same("3 bound without 2", x.response(3, 1), 22);
    }

    private static void responseStepsOverManyReleases() {
        MixedKernel x = new MixedKernel();
        x.add(1, 2, 2, 1, 0);
        x.add(2, 1000, 1000, 100, 150);
        Check.same("twice its budget", x.response(2, 0), 200);
        Check.same("the bound keeps to the low response", x.response(2, 1), 250);
        MixedKernel y = new MixedKernel();
        y.add(1, 2, 2, 1, 1);
        Check.same("high ones go on", y.add(2, 1000, 399, 100, 200), -2);
        Check.same("just fits", y.add(2, 1000, 400, 100, 200), 0);
        Check.same("twice its high budget", y.response(2, 1), 400);
    }

    private static void ended() {
        MixedKernel x = new MixedKernel();
        x.add(1, 5, 5, 2, 0);
        x.add(2, 900, 900, 1, 0);
        Check.missing("no jobs", () -> x.ended(1, 1));
        x.tick();
        for (int job = 1; job <= 9; job++) {
            Check.same("job", x.release(1, 2), job);
            Check.same("pending", x.ended(1, job), MixedKernel.NONE);
            x.run(5);
        }
        for (int job = 2; job <= 9; job++) {
            Check.same("job " + job + " ended", x.ended(1, job), 5 * job - 2);
        }
        Check.missing("none of the latest eight", () -> x.ended(1, 1));
        Check.missing("no job 0", () -> x.ended(1, 0));
        Check.missing("no job -1", () -> x.ended(1, -1));
        Check.missing("least", () -> x.ended(1, LOWEST));
        Check.missing("no job 10", () -> x.ended(1, 10));
        Check.missing("greatest", () -> x.ended(1, GREATEST));
        Check.missing("no job of another", () -> x.ended(2, 1));
        Check.missing("not known", () -> x.ended(3, 1));
        Check.missing("no task", () -> x.ended(-1, 1));
        x.release(1, 1);
        Check.same("job 3 is one of eight", x.ended(1, 3), 13);
        Check.missing("job 2 no more", () -> x.ended(1, 2));
    }

    private static void about() {
        MixedKernel x = new MixedKernel();
        Check.missing("not known", () -> x.about(1, 0));
        Check.missing("not known comes first", () -> x.about(1, 9));
        Check.missing("no task", () -> x.about(13, 0));
        x.add(1, 100, 60, 4, 9);
        x.add(2, 30, 30, 5, 0);
        Check.badArgument("what -1", () -> x.about(1, -1));
        Check.badArgument("what 9", () -> x.about(1, 9));
        Check.badArgument("what greatest", () -> x.about(1, GREATEST));
        x.run(3);
        x.release(2, 5);
        x.run(2);
        x.release(1, 9);
        x.run(10);
        aboutIs("1", x, 1, new int[] {1, 1, 1, 1, 0, 7, 105, 0, 0});
        aboutIs("2", x, 2, new int[] {0, 0, 0, 1, 0, 5, 33, 0, 0});
        x.remove(1);
        x.run(1);
        aboutIs("1 leaving", x, 1, new int[] {1, 1, 1, 1, 0, 8, 105, 1, 0});
        Check.same("high", x.count(2), 1);
        x.run(17);
        Check.same("released again", x.release(2, 1), 2);
        aboutIs("2 again", x, 2, new int[] {0, 0, 1, 2, 0, 5, 63, 0, 0});
    }

    private static void aboutIs(String name, MixedKernel x, int id, int[] due) {
        for (int what = 0; what < due.length; what++) {
            Check.same("about " + name + ", " + what, x.about(id, what), due[what]);
        }
    }

    /** No job that was admitted can be late: at its deadline it has just ended. */
    private static void aboutDeadlines() {
        MixedKernel x = new MixedKernel();
        x.add(1, 10, 3, 3, 0);
        x.add(2, 20, 7, 4, 0);
        x.tick();
        x.release(1, 3);
        x.release(2, 4);
        x.run(6);
        Check.same("pending at its last tick", x.about(2, 8), 0);
        x.run(1);
        Check.same("ended at the deadline", x.ended(2, 1), 8);
        Check.same("not behind it", x.about(2, 8), 0);
        x.run(100);
        Check.same("nor later", x.about(2, 8), 0);
    }

    private static void witness() {
        MixedKernel x = new MixedKernel();
        x.add(4, 6, 6, 3, 0);
        x.add(2, 9, 8, 2, 0);
        Check.missing("no witness of what was admitted", () -> x.witness(0, 0));
        Check.same("refused", x.add(1, 20, 18, 9, 0), 1);
        int[] times = {0, 0, 0, 6, 9, 12};
        int[] tasks = {4, 2, 1, 4, 2, 4};
        witnessIs(x, times, tasks);
        Check.badArgument("what 2", () -> x.witness(0, 2));
        Check.badArgument("what -1", () -> x.witness(5, -1));
        Check.missing("none comes first", () -> x.witness(6, 2));
        Check.missing("release -1", () -> x.witness(-1, 0));
        Check.missing("least", () -> x.witness(LOWEST, 0));
        Check.missing("greatest", () -> x.witness(GREATEST, 1));
        Check.same("another's response", x.add(5, 40, 7, 2, 0), 2);
        witnessIs(x, new int[] {0, 0, 0, 6}, new int[] {4, 5, 2, 4});
    }

    private static void witnessIs(MixedKernel x, int[] times, int[] tasks) {
        for (int i = 0; i < times.length; i++) {
            Check.same("time of release " + i, x.witness(i, 0), times[i]);
            Check.same("task of release " + i, x.witness(i, 1), tasks[i]);
        }
        Check.missing("no more releases", () -> x.witness(times.length, 0));
    }

    private static void witnessStays() {
        MixedKernel x = new MixedKernel();
        x.add(1, 4, 4, 2, 0);
        Check.same("refused", x.add(2, 10, 9, 5, 0), 2);
        int[] times = {0, 0, 4, 8};
        int[] tasks = {1, 2, 1, 1};
        witnessIs(x, times, tasks);
        x.remove(1);
        Check.same("admitted", x.add(1, 7, 7, 1, 0), 0);
        Check.same("admitted", x.add(2, 30, 30, 2, 0), 0);
        Check.same("refused by a bound", x.add(3, 30, 20, 1, 150), -3);
        Check.badState("known", () -> x.add(1, 9, 9, 1, 0));
        x.run(5);
        x.assign();
        witnessIs(x, times, tasks);
    }

    /** A fresh kernel for each hundred: each is used for 512 calls at most. */
    private static void longWitness() {
        for (int from = 2; from <= 1000; from += 100) {
            MixedKernel x = new MixedKernel();
            x.add(1, 1, 1, 1, 0);
            Check.same("refused", x.add(2, 1000, 1000, 1, 0), 2);
            Check.same("first", x.witness(0, 1), 1);
            Check.same("second", x.witness(1, 1), 2);
            for (int i = from; i < from + 100 && i <= 1000; i++) {
                Check.same("time of " + i, x.witness(i, 0), i - 1);
                Check.same("task of " + i, x.witness(i, 1), 1);
            }
            Check.missing("no more", () -> x.witness(1001, 0));
        }
    }

    private static void trace() {
        MixedKernel x = new MixedKernel();
        x.add(1, 300, 300, 2, 0);
        x.tick();
        x.release(1, 2);
        x.run(3);
        int[] due = {0, 1, 1, 0};
        for (int k = 0; k < due.length; k++) {
            Check.same("trace " + k, x.trace(k), due[k]);
        }
        Check.missing("no such tick", () -> x.trace(4));
        Check.missing("trace -1", () -> x.trace(-1));
        Check.missing("trace least", () -> x.trace(LOWEST));
        x.run(253);
        Check.same("255 ticks ago", x.trace(255), 1);
        Check.same("254 ticks ago", x.trace(254), 1);
        Check.same("253 ticks ago", x.trace(253), 0);
        Check.missing("trace 256", () -> x.trace(256));
        x.tick();
        Check.same("255 ticks ago, later", x.trace(255), 1);
        x.tick();
        Check.same("255 ticks ago, later still", x.trace(255), 0);
        Check.missing("trace greatest", () -> x.trace(GREATEST));
    }

    private static void changed() {
        MixedKernel x = new MixedKernel();
        x.add(1, 10, 10, 1, 2);
        x.run(10);
        for (int i = 0; i < 10; i++) {
            x.release(1, 2);
            x.run(10);
            Check.same("changes", x.count(3), i + 1);
            for (int k = 0; k <= i && k < 8; k++) {
                Check.same("changed " + k, x.changed(k), 10 * (i + 1 - k) + 1);
            }
            int none = i + 1;
            Check.missing("changed, one more", () -> x.changed(none));
        }
        Check.missing("changed 8", () -> x.changed(8));
        Check.missing("changed -1", () -> x.changed(-1));
        Check.missing("changed greatest", () -> x.changed(GREATEST));
        Check.missing("changed least", () -> x.changed(LOWEST));
    }

    private static void count() {
        MixedKernel x = new MixedKernel();
        Check.badArgument("count -1", () -> x.count(-1));
        Check.badArgument("count 9", () -> x.count(9));
        Check.badArgument("count greatest", () -> x.count(GREATEST));
        x.add(1, 40, 20, 3, 8);
        x.add(2, 40, 30, 3, 0);
        x.add(3, 40, 40, 3, 0);
        x.run(2);
        x.release(1, 8);
        x.release(2, 3);
        x.release(3, 3);
        x.add(4, 100, 100, 1, 0);
        x.run(2);
        countIs(x, new int[] {4, 2, 0, 0, 4, 3, 3, 0, 2});
        x.run(1);
        countIs(x, new int[] {5, 2, 1, 1, 4, 3, 1, 2, 3});
        x.remove(2);
        x.remove(1);
        countIs(x, new int[] {5, 2, 1, 1, 3, 2, 1, 2, 3});
        x.run(5);
        countIs(x, new int[] {10, 2, 1, 1, 2, 1, 0, 2, 8});
        x.run(1);
        countIs(x, new int[] {11, 3, 0, 1, 2, 2, 0, 2, 0});
    }

    private static void countIs(MixedKernel x, int[] due) {
        for (int what = 0; what < due.length; what++) {
            Check.same("at " + due[0] + " count " + what, x.count(what), due[what]);
        }
    }
}
