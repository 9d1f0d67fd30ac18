import java.nio.charset.StandardCharsets;
import java.util.Arrays;

/** What the tests share: asking for what is due, and telling a trust texts. */
final class Due {
    private static int wrong = 0;

    private Due() {
    }

    interface Call {
        long answer();
    }

    static void is(String what, long got, long want) {
        if (got != want) {
            wrong++;
            System.out.println(what + " answered " + got + ", due is " + want);
        }
    }

    static void same(String what, String got, String want) {
        if (!got.equals(want)) {
            wrong++;
            System.out.println(what + " answered " + got + ", due is " + want);
        }
    }

    static void index(String what, Call call) {
        same(what, outcome(call), "throws.IndexOutOfBoundsException");
    }

    static void argument(String what, Call call) {
        same(what, outcome(call), "throws.IllegalArgumentException");
    }

    static void state(String what, Call call) {
        same(what, outcome(call), "throws.IllegalStateException");
    }

    /** The answer of a call, or the very class that it throws. */
    static String outcome(Call call) {
        try {
            return String.valueOf(call.answer());
        } catch (RuntimeException e) {
            return "throws." + e.getClass().getSimpleName() + (isThrownByOwnWords(e) ? "" : " of the machine or the library");
        }
    }

    /** An exception of a list's own test is made in the library, one of the machine is of another class. */
    private static boolean isThrownByOwnWords(RuntimeException e) {
        StackTraceElement[] trace = e.getStackTrace();
        boolean isOwnPlace = trace.length > 0
                && (trace[0].getClassName().startsWith("TurnpikeTrust") || trace[0].getClassName().startsWith("Model"));
        boolean isOwnClass = e.getClass() == IndexOutOfBoundsException.class
                || e.getClass() == IllegalArgumentException.class || e.getClass() == IllegalStateException.class;
        return isOwnPlace && isOwnClass;
    }

    static void feed(TurnpikeTrust trust, byte[] bytes) {
        for (int from = 0; from < bytes.length; from += 20) {
            byte[] part = Arrays.copyOfRange(bytes, from, from + 20);
            int[] fours = new int[5];
            for (int i = 0; i < 20; i++) {
                fours[i / 4] = fours[i / 4] << 8 | part[i] & 255;
            }
            trust.feed(fours[0], fours[1], fours[2], fours[3], fours[4]);
        }
    }

    static int act(TurnpikeTrust trust, String text, int day) {
        byte[] bytes = text.getBytes(StandardCharsets.ISO_8859_1);
        feed(trust, bytes);
        return trust.act(bytes.length, day);
    }

    static void end(String name) {
        System.out.println(name + ": " + (wrong == 0 ? "all answers are as due" : wrong + " answers are not as due"));
        if (wrong != 0) {
            System.exit(1);
        }
    }
}
