import java.util.ArrayList;
import java.util.List;

/** Counts the answers that are not as due, and makes tapes for the tests to look at. */
final class Check {
    static final long INF = 0x7FF0000000000000L;
    static final long MINUS_INF = 0xFFF0000000000000L;
    static final long NAN = 0x7FF8000000000000L;
    static final long MAX = 0x7FEFFFFFFFFFFFFFL;
    static final long MINUS_MAX = 0xFFEFFFFFFFFFFFFFL;
    static final long MINUS_ZERO = 0x8000000000000000L;
    static final int ILL = 0;
    static final int TRV = 1;
    static final int DEF = 2;
    static final int DAC = 3;
    static final int COM = 4;

    private static int wrong = 0;
    private static int asked = 0;

    private Check() {
    }

    /** A call whose exception, if any, is to be told. */
    interface Call {
        long answer();
    }

    static void due(String what, long got, long want) {
        asked++;
        if (got != want) {
            wrong++;
            if (wrong <= 50) {
                System.out.println(what + " answered " + told(got) + ", due is " + told(want));
            }
        }
    }

    static void due(String what, boolean got, boolean want) {
        due(what, got ? 1 : 0, want ? 1 : 0);
    }

    static void throwing(String what, Class<? extends RuntimeException> want, Call call) {
        Class<?> got = null;
        try {
            call.answer();
        } catch (RuntimeException e) {
            got = e.getClass();
        }
        asked++;
        if (got != want) {
            wrong++;
            System.out.println(what + " threw " + got + ", due is " + want);
        }
    }

    static void intervalBits(String what, OutwardTape tape, int x, long lower, long upper, int decoration) {
        due(what + ": decoration", tape.decoration(x), decoration);
        due(what + ": isEmpty", tape.isEmpty(x), decoration != ILL && lower == INF && upper == MINUS_INF);
        due(what + ": lower", tape.lower(x), lower);
        due(what + ": upper", tape.upper(x), upper);
    }

    static void interval(String what, OutwardTape tape, int x, double lower, double upper, int decoration) {
        intervalBits(what, tape, x, lowerBits(lower), upperBits(upper), decoration);
    }

    static void empty(String what, OutwardTape tape, int x) {
        intervalBits(what, tape, x, INF, MINUS_INF, TRV);
    }

    static void ill(String what, OutwardTape tape, int x) {
        intervalBits(what, tape, x, NAN, NAN, ILL);
    }

    static long lowerBits(double d) {
        return d == 0 ? MINUS_ZERO : Double.doubleToLongBits(d);
    }

    static long upperBits(double d) {
        return d == 0 ? 0 : Double.doubleToLongBits(d);
    }

    static int put(OutwardTape tape, double lower, double upper, int decoration) {
        return tape.bounds(Double.doubleToLongBits(lower), Double.doubleToLongBits(upper), decoration);
    }

    /** The empty interval can be had by a literal or an intersection alone. */
    static int putEmpty(OutwardTape tape) {
        return putText(tape, "[]");
    }

    static int putIll(OutwardTape tape) {
        return tape.bounds(NAN, NAN, TRV);
    }

    static int putText(OutwardTape tape, String text) {
        tape.wipe();
        type(tape, text);
        return tape.literal();
    }

    static void type(OutwardTape tape, String text) {
        for (int word : words(text)) {
            if (!tape.type(word)) {
                due("typing " + text, false, true);
            }
        }
    }

    private static List<Integer> words(String text) {
        List<Integer> words = new ArrayList<>();
        for (int i = 0; i < text.length(); i += 4) {
            int word = 0;
            for (int k = i; k < Math.min(i + 4, text.length()); k++) {
                word = (word << 8) | text.charAt(k);
            }
            words.add(word);
        }
        return words;
    }

    static void finish() {
        System.out.println(asked + " answers looked at, " + wrong + " of them not as due");
        if (wrong != 0) {
            System.exit(1);
        }
    }

    private static String told(long value) {
        return value + " (0x" + Long.toHexString(value) + ", " + Double.longBitsToDouble(value) + ")";
    }
}
