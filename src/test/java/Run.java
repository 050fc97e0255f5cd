import java.lang.reflect.Array;
import java.lang.reflect.Field;
import java.lang.reflect.InvocationTargetException;
import java.lang.reflect.Method;
import java.util.ArrayList;
import java.util.Arrays;
import java.util.List;

/**
 * A run of calls on a new object, for one sentence of the document. A row is a call and what is due,
 * "run(1001) = IAE": NSE, IAE and ISE are the exceptions, and a call without a due is only made. Of
 * every question, and of every call that throws, it is also looked at that nothing changed. The same
 * rows are played on the model, so that it is held to them too.
 */
final class Run {
    /** An object is used for no more calls than these. */
    private static final int MOST_CALLS = 512;
    /** What a job was charged is seen by how the run goes on alone. */
    private static final int TICKS_ON = 50;
    private static final List<String> ASKING =
            List.of("response", "ended", "about", "witness", "trace", "changed", "count");
    private static final List<Row> QUESTIONS = questions();

    private static final class Row {
        final String call;
        final String name;
        final int[] numbers;
        final String due;

        Row(String text) {
            int open = text.indexOf('(');
            int close = text.indexOf(')');
            call = text.substring(0, close + 1);
            name = text.substring(0, open);
            numbers = numbers(text.substring(open + 1, close));
            due = due(text.substring(close + 1));
        }

        /** Puts a number of a task where no call can put it. */
        Row(int id, String field, int number) {
            call = "bend of the " + field + " of " + id;
            name = field;
            numbers = new int[] {id, number};
            due = "bent";
        }

        boolean bends() {
            return due.equals("bent");
        }

        boolean mayChange() {
            return !ASKING.contains(name) && !due.startsWith("throws.");
        }
    }

    private final String sentence;
    private final List<Row> rows = new ArrayList<>();

    private Run(String sentence) {
        this.sentence = sentence;
    }

    static Run of(String sentence, String... texts) {
        return new Run(sentence).then(texts);
    }

    Run then(String... texts) {
        for (String text : texts) {
            rows.add(new Row(text));
        }
        return this;
    }

    Run bend(int id, String field, int number) {
        rows.add(new Row(id, field, number));
        return this;
    }

    void end() {
        Check.same(sentence + ": calls above the limit", Math.max(rows.size() - MOST_CALLS, 0), 0);
        answersAreDue("", new MixedKernel());
        answersAreDue("the model, ", new Model());
        theRestChangesNothing();
    }

    private static int[] numbers(String list) {
        return list.isEmpty() ? new int[0]
                : Arrays.stream(list.split(", ")).mapToInt(Run::number).toArray();
    }

    private static int number(String text) {
        switch (text) {
            case "least": return Integer.MIN_VALUE;
            case "greatest": return Integer.MAX_VALUE;
            case "true": return 1;
            case "false": return 0;
            case "NONE": return MixedKernel.NONE;
            case "GIVEN_UP": return MixedKernel.GIVEN_UP;
            default: return Integer.parseInt(text);
        }
    }

    private static String due(String rest) {
        if (rest.isEmpty()) {
            return "";
        }
        if (!rest.startsWith(" = ")) {
            throw new IllegalArgumentException("no row: " + rest);
        }
        String text = rest.substring(3);
        switch (text) {
            case "NSE": return "throws.NoSuchElementException";
            case "IAE": return "throws.IllegalArgumentException";
            case "ISE": return "throws.IllegalStateException";
            default: return Integer.toString(number(text));
        }
    }

    private void answersAreDue(String who, Object kernel) {
        for (Row row : rows) {
            String got = play(kernel, row);
            String text = who + sentence + ": " + row.call;
            if (row.due.isEmpty()) {
                Check.same(text + " throws", got.startsWith("throws.") ? 1 : 0, 0);
            } else {
                Check.same(text, got, row.due);
            }
        }
    }

    /** A row of questions and refused calls ends where one comes that may change something. */
    private void theRestChangesNothing() {
        for (int to = 1; to <= rows.size(); to++) {
            Row latest = rows.get(to - 1);
            boolean isLast = to == rows.size() || rows.get(to).mayChange();
            if (isLast && !latest.mayChange()) {
                String text = sentence + ": the state behind " + latest.call;
                Check.same(text, state(to, true, 0), state(to, false, 0));
                Check.same(text + ", later", state(to, true, TICKS_ON), state(to, false, TICKS_ON));
            }
        }
    }

    /** All that the face tells; a fresh object where one would come to its limit of calls. */
    private String state(int to, boolean all, int ticksOn) {
        StringBuilder text = new StringBuilder();
        MixedKernel kernel = null;
        int calls = MOST_CALLS;
        for (Row question : QUESTIONS) {
            if (calls >= MOST_CALLS) {
                kernel = new MixedKernel();
                calls = 1 + replay(kernel, to, all);
                kernel.run(ticksOn);
            }
            text.append(question.call).append(play(kernel, question)).append(' ');
            calls++;
        }
        return text.toString();
    }

    private int replay(MixedKernel kernel, int to, boolean all) {
        int calls = 0;
        for (Row row : rows.subList(0, to)) {
            if (all || row.mayChange()) {
                play(kernel, row);
                calls++;
            }
        }
        return calls;
    }

    private static List<Row> questions() {
        List<Row> all = new ArrayList<>();
        for (int i = 0; i < 10; i++) {
            all.add(new Row("count(" + i + ")"));
            all.add(new Row("changed(" + i + ")"));
            all.add(new Row("trace(" + i + ")"));
            all.add(new Row("witness(" + i + ", 0)"));
            all.add(new Row("witness(" + i + ", 1)"));
            for (int id = 1; id <= 12; id++) {
                all.add(new Row("about(" + id + ", " + i + ")"));
                all.add(new Row("ended(" + id + ", " + (i + 1) + ")"));
            }
        }
        for (int id = 1; id <= 12; id++) {
            all.add(new Row("response(" + id + ", 0)"));
            all.add(new Row("response(" + id + ", 1)"));
        }
        return all;
    }

    private static String play(Object kernel, Row row) {
        try {
            return row.bends() ? bend(kernel, row) : call(kernel, row);
        } catch (ReflectiveOperationException e) {
            return "throws." + e;
        }
    }

    /** The answer, true as 1 and false as 0, or what the call throws. */
    private static String call(Object kernel, Row row) throws ReflectiveOperationException {
        Class<?>[] types = new Class<?>[row.numbers.length];
        Arrays.fill(types, int.class);
        Method method = kernel.getClass().getDeclaredMethod(row.name, types);
        try {
            Object got = method.invoke(kernel, Arrays.stream(row.numbers).boxed().toArray());
            return got instanceof Boolean yes ? (yes ? "1" : "0") : got.toString();
        } catch (InvocationTargetException e) {
            return "throws." + e.getCause().getClass().getSimpleName();
        }
    }

    private static String bend(Object kernel, Row row) throws ReflectiveOperationException {
        Object task;
        if (kernel instanceof Model model) {
            task = model.known(row.numbers[0]);
        } else {
            Field tasks = MixedKernel.class.getDeclaredField("tasks");
            tasks.setAccessible(true);
            task = Array.get(tasks.get(kernel), row.numbers[0]);
        }
        Field field = task.getClass().getDeclaredField(row.name);
        field.setAccessible(true);
        field.setInt(task, row.numbers[1]);
        return "bent";
    }
}
