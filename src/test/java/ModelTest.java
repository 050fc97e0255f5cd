import java.util.Map;
import java.util.TreeMap;

/** Many runs of drawn calls, each answer against the model's; the draws are the same every time. */
public final class ModelTest {
    private static final int RUNS = 3000;
    /** What a kernel answers behind so many calls is free. */
    private static final int MOST_CALLS = 512;
    /** So many calls everything() makes. */
    private static final int ALL_QUESTIONS = 316;
    private static final int MOST_WRONG = 20;

    /** How often something worth looking at was met; a run of tests without it would prove little. */
    private static final Map<String, Integer> MET = new TreeMap<>();
    private static long drawn = 20261115L;

    private final MixedKernel kernel = new MixedKernel();
    private final Model model = new Model();
    private final int run;
    /** Periods of a run are near each other: so the tasks of some runs come to lack room. */
    private final int scale;
    private int calls;

    private ModelTest(int run) {
        this.run = run;
        this.scale = new int[] {12, 30, 80, 300, 1000}[run / 2 % 5];
    }

    public static void main(String[] args) {
        for (int run = 0; run < RUNS && Check.wrongSoFar() < MOST_WRONG; run++) {
            new ModelTest(run).draws();
        }
        mustHaveMet();
        Check.end();
    }

    private static void mustHaveMet() {
        System.out.println("met: " + MET);
        String[] due = {"add 0", "add low response", "add bound", "add known", "remove at once",
            "remove later", "remove leaving", "release", "release dropped", "release early",
            "release leaving", "assign", "assign with waiting", "mode change", "given up",
            "left at a tick", "left by giving up", "in force late"};
        for (String what : due) {
            Check.same("met " + what, MET.getOrDefault(what, 0) > 0 ? 1 : 0, 1);
        }
    }

    private static int draw(int bound) {
        drawn = drawn * 6364136223846793005L + 1442695040888963407L;
        return (int) ((drawn >>> 33) % bound);
    }

    private static int between(int least, int most) {
        return least + draw(most - least + 1);
    }

    private static void met(String what) {
        MET.merge(what, 1, Integer::sum);
    }

    /** Every other run ends early, to be asked everything at its end. */
    private void draws() {
        int most = run % 2 == 0 ? MOST_CALLS : between(40, MOST_CALLS - ALL_QUESTIONS);
        while (calls < most && Check.wrongSoFar() < MOST_WRONG) {
            one();
        }
        if (run % 2 != 0) {
            everything();
        }
        Check.same("calls above the limit", Math.max(calls - MOST_CALLS, 0), 0);
    }

    private void one() {
        int kind = draw(100);
        if (kind < 12 || calls < 6) {
            add();
        } else if (kind < 17) {
            remove();
        } else if (kind < 50) {
            release();
        } else if (kind < 70) {
            time();
        } else if (kind < 72) {
            assign();
        } else {
            ask(kind);
        }
    }

    private int id() {
        return draw(40) == 0 ? between(-1, 14) : between(1, 12);
    }

    /** A number out of a range, or now and then one at or beyond its ends. */
    private static int near(int least, int most) {
        if (draw(25) == 0) {
            return draw(2) == 0 ? least - draw(2) : most + draw(2);
        }
        return between(least, Math.max(least, most));
    }

    private void add() {
        int id = id();
        int period = draw(40) == 0 ? near(1, 1000) : near(Math.max(2, scale / 3), scale);
        int deadline = draw(3) == 0 ? period : near(Math.max(1, period / 2), period);
        int low = draw(30) == 0 ? near(1, 100) : near(1, Math.max(1, Math.min(100, scale / 12)));
        int high = draw(2) == 0 ? 0 : draw(12) == 0 ? near(low, 200) : near(low, Math.min(200, 3 * low));
        String text = "add(" + id + ", " + period + ", " + deadline + ", " + low + ", " + high + ")";
        String due = same(text, Check.answer(() -> kernel.add(id, period, deadline, low, high)),
                Check.answer(() -> model.add(id, period, deadline, low, high)));
        met(due.equals("0") ? "add 0" : due.equals("throws.IllegalStateException") ? "add known"
                : due.startsWith("-") ? "add bound" : due.startsWith("throws") ? "add wrong"
                : "add low response");
    }

    private void remove() {
        int id = id();
        String due = same("remove(" + id + ")", Check.answer(() -> kernel.remove(id) ? 1 : 0),
                Check.answer(() -> model.remove(id) ? 1 : 0));
        met(due.equals("1") ? "remove at once" : due.equals("0") ? "remove later"
                : due.equals("throws.IllegalStateException") ? "remove leaving" : "remove of none");
    }

    /** Mostly one in force, else most releases would be refused for that alone. */
    private int idToRelease() {
        int id = id();
        for (int i = 0; i < 8 && !model.isInForce(id); i++) {
            id = id();
        }
        return id;
    }

    private void release() {
        int id = idToRelease();
        int most = draw(3) == 0 ? Math.min(200, scale / 4) : Math.max(1, scale / 12);
        int demand = near(1, Math.max(1, most));
        String leaving = Check.answer(() -> model.about(id, 7));
        String due = same("release(" + id + ", " + demand + ")",
                Check.answer(() -> kernel.release(id, demand)), Check.answer(() -> model.release(id, demand)));
        met(due.equals("0") ? "release dropped" : !due.startsWith("throws") ? "release"
                : !due.equals("throws.IllegalStateException") ? "release wrong"
                : leaving.equals("1") ? "release leaving" : "release early");
    }

    private void time() {
        int changes = model.count(3);
        int given = model.count(7);
        int known = model.count(4);
        int waiting = known - model.count(5);
        int idle = model.count(1);
        if (draw(2) == 0) {
            same("tick()", Check.answer(kernel::tick), Check.answer(model::tick));
        } else {
            int n = draw(60) == 0 ? near(0, 1000) : near(0, Math.max(2, scale / 8));
            same("run(" + n + ")", Check.answer(() -> kernel.run(n)), Check.answer(() -> model.run(n)));
        }
        meetIf("mode change", model.count(3) > changes);
        meetIf("given up", model.count(7) > given);
        meetIf("left at a tick", model.count(4) < known);
        meetIf("left by giving up", model.count(4) < known && model.count(7) > given);
        meetIf("in force late", waiting > 0 && model.count(1) == idle);
    }

    private static void meetIf(String what, boolean so) {
        if (so) {
            met(what);
        }
    }

    private void assign() {
        same("assign()", Check.answer(() -> kernel.assign() ? 1 : 0), Check.answer(() -> model.assign() ? 1 : 0));
        met("assign");
        meetIf("assign with waiting", model.count(4) > model.count(5) && model.count(5) > 0);
    }

    private void ask(int kind) {
        int id = id();
        int what = draw(12) - 1;
        int few = draw(11) - 1;
        int many = draw(300) - 2;
        switch (kind % 8) {
            case 0: askResponse(id, draw(4) - 1); break;
            case 1: askEnded(id, few); break;
            case 2: askAbout(id, what); break;
            case 3: askWitness(many, draw(8) == 0 ? draw(4) - 1 : draw(2)); break;
            case 4: askTrace(many); break;
            case 5: askChanged(few); break;
            case 6: askCount(what); break;
            default: askEnded(id, draw(30)); break;
        }
    }

    /** Every question, so that no change goes unseen. */
    private void everything() {
        for (int id = 1; id <= 12; id++) {
            for (int what = 0; what <= 8; what++) {
                askAbout(id, what);
            }
            askResponse(id, 0);
            askResponse(id, 1);
            int jobs = model.jobsOf(id);
            for (int job = jobs - 9; job <= jobs + 1; job++) {
                askEnded(id, job);
            }
        }
        for (int k = 0; k <= 9; k++) {
            askChanged(k);
            askCount(k);
            askTrace(k);
            askWitness(k, 0);
            askWitness(k, 1);
        }
        askTrace(255);
        askTrace(256);
    }

    private void askResponse(int id, int what) {
        same("response(" + id + ", " + what + ")",
                Check.answer(() -> kernel.response(id, what)), Check.answer(() -> model.response(id, what)));
    }

    private void askEnded(int id, int job) {
        same("ended(" + id + ", " + job + ")",
                Check.answer(() -> kernel.ended(id, job)), Check.answer(() -> model.ended(id, job)));
    }

    private void askAbout(int id, int what) {
        same("about(" + id + ", " + what + ")",
                Check.answer(() -> kernel.about(id, what)), Check.answer(() -> model.about(id, what)));
    }

    private void askWitness(int i, int what) {
        same("witness(" + i + ", " + what + ")",
                Check.answer(() -> kernel.witness(i, what)), Check.answer(() -> model.witness(i, what)));
    }

    private void askTrace(int k) {
        same("trace(" + k + ")", Check.answer(() -> kernel.trace(k)), Check.answer(() -> model.trace(k)));
    }

    private void askChanged(int k) {
        same("changed(" + k + ")", Check.answer(() -> kernel.changed(k)), Check.answer(() -> model.changed(k)));
    }

    private void askCount(int what) {
        same("count(" + what + ")", Check.answer(() -> kernel.count(what)), Check.answer(() -> model.count(what)));
    }

    private String same(String call, String got, String due) {
        calls++;
        Check.same("run " + run + ", time " + model.count(0) + ": " + call, got, due);
        return due;
    }
}
