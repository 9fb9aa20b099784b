import java.math.BigDecimal;
import java.util.List;
import java.util.regex.Matcher;
import java.util.regex.Pattern;

/** The document's grammar of literals as regular expressions, to tell what is due of any text. */
final class Grammar {
    private static final double INF = Double.POSITIVE_INFINITY;
    private static final Pattern NUMBER =
        Pattern.compile("([+-]?)(?=\\.?[0-9])([0-9]*)(?:\\.([0-9]*))?(?:e([+-]?[0-9]{1,2}))?");
    private static final Pattern LITERAL = Pattern.compile("\\[([^\\[\\]_]*)\\](?:_(com|dac|def|trv))?");

    private Grammar() {
    }

    static void compare(String text) {
        OutwardTape tape = new OutwardTape();
        due(text).due("literal " + text, tape, Check.putText(tape, text));
    }

    static Told due(String text) {
        Matcher whole = LITERAL.matcher(text.toLowerCase());
        Reference due = whole.matches() ? inside(whole.group(1)) : null;
        int mark = due == null ? Check.ILL : decorated(due, whole.group(2));
        return mark == Check.ILL ? Told.ILL : due.isEmpty() ? Told.EMPTY : new Told(due.lower, due.upper, mark);
    }

    private static int decorated(Reference x, String asked) {
        int strongest = x.isEmpty() ? Check.TRV : x.isBounded() ? Check.COM : Check.DAC;
        int mark = asked == null ? strongest : List.of("ill", "trv", "def", "dac", "com").indexOf(asked);
        return mark > strongest ? Check.ILL : mark;
    }

    /** Null when it is no interval. */
    private static Reference inside(String text) {
        String bare = text.replaceAll("^ +| +$", "");
        if (bare.isEmpty() || bare.equals("empty")) {
            return Reference.EMPTY;
        }
        if (bare.equals("entire")) {
            return new Reference(-INF, INF);
        }
        String[] ends = bare.split(" *, *", -1);
        if (ends.length == 1) {
            BigDecimal x = decimal(bare);
            return x == null ? null : new Reference(Reference.decimal(x, false), Reference.decimal(x, true));
        }
        boolean fromInfinity = ends[0].matches("|-inf|-infinity");
        boolean toInfinity = ends.length == 2 && ends[1].matches("|[+]?inf|[+]?infinity");
        BigDecimal from = decimal(ends[0]);
        BigDecimal to = decimal(ends[1]);
        if (ends.length != 2 || (from == null && !fromInfinity) || (to == null && !toInfinity)) {
            return null;
        }
        if (from != null && to != null && from.compareTo(to) > 0) {
            return null;
        }
        return new Reference(from == null ? -INF : Reference.decimal(from, false),
            to == null ? INF : Reference.decimal(to, true));
    }

    private static BigDecimal decimal(String text) {
        Matcher number = NUMBER.matcher(text);
        if (!number.matches()) {
            return null;
        }
        String behind = number.group(3) == null ? "" : number.group(3);
        String digits = (number.group(2) + behind).replaceAll("^0+", "");
        int scale = (number.group(4) == null ? 0 : Integer.parseInt(number.group(4))) - behind.length();
        if (digits.length() > 18 || scale < -40 || scale > 40) {
            return null;
        }
        BigDecimal size = new BigDecimal(digits.isEmpty() ? "0" : digits).scaleByPowerOfTen(scale);
        return number.group(1).equals("-") ? size.negate() : size;
    }
}
