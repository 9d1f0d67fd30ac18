import java.util.function.Supplier;
import java.util.function.ToLongFunction;

/** What the tests share: asking for what is due. */
final class Due {
    private static int wrong = 0;
    private static String test = "";

    private Due() {
    }

    interface Call {
        long answer();
    }

    /** What is asked from here on is told with the test's name. */
    static void begin(String name) {
        test = name.isEmpty() ? "" : name + ": ";
    }

    static void is(String what, long got, long want) {
        if (got != want) {
            same(what, String.valueOf(got), String.valueOf(want));
        }
    }

    static void same(String what, String got, String want) {
        if (!got.equals(want)) {
            wrong++;
            System.out.println(test + what + " answered " + got + ", due is " + want);
        }
    }

    static void line(Trust x, int k, long day, long kind, long who, long sum) {
        is("day of line " + k, x.journal(k, 0), day);
        is("kind of line " + k, x.journal(k, 1), kind);
        is("who of line " + k, x.journal(k, 2), who);
        is("sum of line " + k, x.journal(k, 3), sum);
    }

    static void index(String what, Call call) {
        same(what, outcome(call), "throws.IndexOutOfBoundsException");
    }

    static void argument(String what, Call call) {
        same(what, outcome(call), "throws.IllegalArgumentException");
    }

    static void state(String what, Call call) {
        same(what, outcome(call), "throws.IllegalStateException");
    }

    /** The answer of a call, or the very class that it throws. */
    static String outcome(Call call) {
        try {
            return String.valueOf(call.answer());
        } catch (RuntimeException e) {
            return "throws." + e.getClass().getSimpleName() + (isThrownByOwnWords(e) ? "" : " of the machine or the library");
        }
    }

    /** An exception of a list's own test is made in the library, one of the machine is of another class. */
    private static boolean isThrownByOwnWords(RuntimeException e) {
        StackTraceElement[] trace = e.getStackTrace();
        boolean isOwnPlace = trace.length > 0
                && (trace[0].getClassName().startsWith("TurnpikeTrust") || trace[0].getClassName().startsWith("Model"));
        boolean isOwnClass = e.getClass() == IndexOutOfBoundsException.class
                || e.getClass() == IllegalArgumentException.class || e.getClass() == IllegalStateException.class;
        return isOwnPlace && isOwnClass;
    }

    static void refusesIndex(String what, Supplier<Trust> made, ToLongFunction<Trust> call) {
        leavesAll(what, made, "throws.IndexOutOfBoundsException", call);
    }

    static void refusesArgument(String what, Supplier<Trust> made, ToLongFunction<Trust> call) {
        leavesAll(what, made, "throws.IllegalArgumentException", call);
    }

    static void refusesState(String what, Supplier<Trust> made, ToLongFunction<Trust> call) {
        leavesAll(what, made, "throws.IllegalStateException", call);
    }

    /** A call's answer or exception, and that a trust of which it was asked is as one of which it was not. */
    static void leavesAll(String what, Supplier<Trust> made, String outcome, ToLongFunction<Trust> call) {
        Trust asked = made.get();
        same(what, outcome(() -> call.applyAsLong(asked)), outcome);
        same("what stands behind " + what, State.of(asked), State.of(made.get()));
    }

    static void end(String name) {
        System.out.println(name + ": " + (wrong == 0 ? "all answers are as due" : wrong + " answers are not as due"));
        if (wrong != 0) {
            System.exit(1);
        }
    }
}
