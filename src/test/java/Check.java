import java.util.function.IntSupplier;

/** Counts and prints the answers that are not as due. */
final class Check {
    private static int wrong = 0;
    private static int looked = 0;

    private Check() {
    }

    static void same(String what, long got, long due) {
        looked++;
        if (got != due) {
            wrong++;
            System.out.println(what + " answered " + got + ", due is " + due);
        }
    }

    static void same(String what, String got, String due) {
        looked++;
        if (!got.equals(due)) {
            wrong++;
            System.out.println(what + " answered " + got + ", due is " + due);
        }
    }

    /** What a call does, as a text: its answer, or the name of what it throws. */
    static String answer(IntSupplier call) {
        try {
            return Integer.toString(call.getAsInt());
        } catch (RuntimeException e) {
            return "throws." + e.getClass().getSimpleName();
        }
    }

    static void missing(String what, IntSupplier call) {
        same(what, answer(call), "throws.NoSuchElementException");
    }

    static void badArgument(String what, IntSupplier call) {
        same(what, answer(call), "throws.IllegalArgumentException");
    }

    static void badState(String what, IntSupplier call) {
        same(what, answer(call), "throws.IllegalStateException");
    }

    static int wrongSoFar() {
        return wrong;
    }

    static void end() {
        System.out.println(looked + " answers looked at, " + wrong + " not as due");
        if (wrong != 0) {
            System.exit(1);
        }
    }
}
