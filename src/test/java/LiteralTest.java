import java.math.BigDecimal;

/** Promise 5: literals told one by one, and many more against a grammar written as regular expressions. */
public final class LiteralTest {
    private static final double INF = Double.POSITIVE_INFINITY;
    private static final int ROUNDS = 60_000;
    private static final String[] PIECES = {
        "[", "]", ",", " ", "  ", "_com", "_dac", "_def", "_trv", "_", "_COM", "inf", "infinity", "-inf", "+INF", "Infinity",
        "empty", "entire", "nai", "e", "E5", "e-5", "e+40", "e-40", "e41", "e99", "0", "1", "-", "+", ".", "5", "0.1", "-0",
        "999999999999999999", "123456789", "0.000000000", "1e5", "2.50", "-7.", ".5", "00", "x"
    };

    public static void main(String[] args) {
        sets();
        numbers();
        limits();
        order();
        spaces();
        decorations();
        wrong();
        fullTexts();
        olderTexts();
        againstTheGrammar();
        Check.finish();
    }

    private static void is(String text, double lower, double upper, int mark) {
        OutwardTape tape = new OutwardTape();
        Check.interval("literal " + text, tape, Check.putText(tape, text), lower, upper, mark);
        Check.due("length of " + text, tape.length(), text.length());
    }

    private static void isEmpty(String text) {
        is(text, INF, -INF, Check.TRV);
    }

    private static void isIll(String text) {
        OutwardTape tape = new OutwardTape();
        Check.ill("literal " + text, tape, Check.putText(tape, text));
        Check.due("length of " + text, tape.length(), text.length());
    }

    private static void sets() {
        isEmpty("[]");
        isEmpty("[   ]");
        isEmpty("[empty]");
        isEmpty("[ EmPtY ]");
        is("[,]", -INF, INF, Check.DAC);
        is("[ , ]", -INF, INF, Check.DAC);
        is("[entire]", -INF, INF, Check.DAC);
        is("[ ENTIRE ]", -INF, INF, Check.DAC);
        is("[-inf,inf]", -INF, INF, Check.DAC);
        is("[-INFINITY,+Infinity]", -INF, INF, Check.DAC);
        is("[-inf,]", -INF, INF, Check.DAC);
        is("[,+inf]", -INF, INF, Check.DAC);
        is("[1,]", 1, INF, Check.DAC);
        is("[,1]", -INF, 1, Check.DAC);
        is("[1,inf]", 1, INF, Check.DAC);
        is("[-infinity,-1]", -INF, -1, Check.DAC);
        isIll("[nai]");
        isIll("[ NaI ]");
        isIll("[nai]_trv");
    }

    private static void numbers() {
        is("[1]", 1, 1, Check.COM);
        is("[+1]", 1, 1, Check.COM);
        is("[-1]", -1, -1, Check.COM);
        is("[1.]", 1, 1, Check.COM);
        is("[.5]", 0.5, 0.5, Check.COM);
        is("[-.5e+1]", -5, -5, Check.COM);
        is("[1.5E2]", 150, 150, Check.COM);
        is("[25e-2]", 0.25, 0.25, Check.COM);
        is("[5e00]", 5, 5, Check.COM);
        is("[5e07]", 5e7, 5e7, Check.COM);
        is("[0]", 0, 0, Check.COM);
        is("[-0]", 0, 0, Check.COM);
        is("[-0.0e5,0]", 0, 0, Check.COM);
        is("[0.1]", Math.nextDown(0.1), 0.1, Check.COM);
        is("[-0.1]", -0.1, Math.nextUp(-0.1), Check.COM);
        is("[0.1,0.2]", Math.nextDown(0.1), 0.2, Check.COM);
        is("[0.3]", 0.3, Math.nextUp(0.3), Check.COM);
        is("[9007199254740993]", 9007199254740992.0, 9007199254740994.0, Check.COM);
        is("[-9007199254740993]", -9007199254740994.0, -9007199254740992.0, Check.COM);
        is("[1e22]", 1e22, 1e22, Check.COM);
        is("[1e23]", 1e23, Math.nextUp(1e23), Check.COM);
    }

    private static void limits() {
        BigDecimal most = new BigDecimal("999999999999999999e40");
        is("[999999999999999999e40]", Reference.decimal(most, false), Reference.decimal(most, true), Check.COM);
        BigDecimal least = new BigDecimal("1e-40");
        is("[1e-40]", Reference.decimal(least, false), Reference.decimal(least, true), Check.COM);
        is("[000000000000000000000000000001]", 1, 1, Check.COM);
        is("[0.0000000000000000000000000000000000000000]", 0, 0, Check.COM);
        is("[0.0000000000000000000000000000000000000000000000005e49]", 5, 5, Check.COM);
        is("[0e40]", 0, 0, Check.COM);
        is("[0e-40]", 0, 0, Check.COM);
        is("[1.0000e44]", Math.nextDown(1e44), 1e44, Check.COM);
        isIll("[1234567890123456789]");
        isIll("[1.000000000000000000]");
        isIll("[0.1000000000000000000]");
        isIll("[1e41]");
        isIll("[1e-41]");
        isIll("[0e41]");
        isIll("[0e-41]");
        isIll("[1.0e-40]");
        isIll("[0.00000000000000000000000000000000000000000]");
        isIll("[1e99]");
        isIll("[1e040]");
        isIll("[1e100]");
        isIll("[1,1e41]");
    }

    private static void order() {
        is("[1,1.0]", 1, 1, Check.COM);
        is("[1.0,1]", 1, 1, Check.COM);
        is("[10e-1,0.1e1]", 1, 1, Check.COM);
        is("[-0,0]", 0, 0, Check.COM);
        is("[0,-0]", 0, 0, Check.COM);
        is("[0e40,-0e-40]", 0, 0, Check.COM);
        is("[-1e40,1e-40]", -1e40, Math.nextUp(1e-40), Check.COM);
        is("[100000000000000000e-17,1]", 1, 1, Check.COM);
        is("[1,100000000000000001e-17]", 1, Math.nextUp(1.0), Check.COM);
        isIll("[100000000000000001e-17,1]");
        isIll("[1,0.99999999999999999]");
        isIll("[2,1]");
        isIll("[-1,-2]");
        isIll("[-1,-1.00000000000000001]");
        isIll("[1e-40,0]");
        isIll("[0,-1e-40]");
        isIll("[1e40,999999999999999999e-40]");
        isIll("[1,-1]");
        isIll("[inf,inf]");
        isIll("[-inf,-inf]");
        isIll("[inf,-inf]");
        isIll("[inf,]");
        isIll("[,-inf]");
        isIll("[+inf,1]");
        isIll("[1,-inf]");
        isIll("[inf]");
        isIll("[-inf]");
    }

    private static void spaces() {
        is("[   1   ,   2   ]", 1, 2, Check.COM);
        is("[ -inf , +inf ]", -INF, INF, Check.DAC);
        is("[   ,   2]", -INF, 2, Check.DAC);
        isIll(" [1]");
        isIll("[1] ");
        isIll("[1]_com ");
        isIll("[1] _com");
        isIll("[1]_ com");
        isIll("[- 1]");
        isIll("[1 .5]");
        isIll("[1. 5]");
        isIll("[1 e5]");
        isIll("[1e 5]");
        isIll("[1e+ 5]");
        isIll("[1 2]");
        isIll("[- inf,1]");
        isIll("[-in f,1]");
        isIll("[em pty]");
        isIll("[1]_c om");
    }

    private static void decorations() {
        is("[1,2]_com", 1, 2, Check.COM);
        is("[1,2]_dac", 1, 2, Check.DAC);
        is("[1,2]_def", 1, 2, Check.DEF);
        is("[1,2]_trv", 1, 2, Check.TRV);
        is("[1,2]_DeF", 1, 2, Check.DEF);
        is("[1,2]_DAC", 1, 2, Check.DAC);
        is("[1,2]_COM", 1, 2, Check.COM);
        is("[1,]_dac", 1, INF, Check.DAC);
        is("[1,]_def", 1, INF, Check.DEF);
        is("[,]_trv", -INF, INF, Check.TRV);
        is("[entire]_dac", -INF, INF, Check.DAC);
        isEmpty("[]_trv");
        isEmpty("[empty]_TRV");
        isIll("[1,]_com");
        isIll("[,1]_com");
        isIll("[entire]_com");
        isIll("[]_com");
        isIll("[]_dac");
        isIll("[empty]_def");
        isIll("[1]_ill");
        isIll("[1]_");
        isIll("[1]_co");
        isIll("[1]_comm");
        isIll("[1]_bom");
        isIll("[1]_xac");
        isIll("[1]_xef");
        isIll("[1]_xrv");
        isIll("[1]com");
        isIll("[1]__com");
        isIll("[nai]_ill");
    }

    private static void wrong() {
        String[] texts = {
            "", " ", "[", "]", "1", "[1", "1]", "[[1]]", "[1]]", "[1,2,3]", "[,,]", "[1,2]x", "[x]", "[.]", "[-]", "[+]", "[e5]",
            "[.e5]", "[1e]", "[1e+]", "[1e-]", "[1e,2]", "[1.2.3]", "[..5]", "[--1]", "[+-1]", "[1-]", "[1e5.]", "[1e1e1]",
            "[empt]", "[emptyy]", "[entir]", "[entiree]", "[empty,]", "[entire,1]", "[,empty]", "[+empty]", "[infi,1]", "[-xnf,1]", "[1,+xnfinity]",
            "[-infinit,1]", "[-infinityy,1]", "[1,in]", "[1;2]", "(1,2)", "[0x1]", "[1_com]", "_com", "[]]", "[1,2", "[nai"
        };
        for (String text : texts) {
            isIll(text);
        }
    }

    /** Texts of 60 characters that break off in the middle of something. */
    private static void fullTexts() {
        String[] breaks = {
            "", "1", "1.", "1e", "1e-", "1e5", "1,", "1,2", "-", "-i", "-inf", "-infinit", "e", "empt", "entire", "]_", "]_co", "1]_t"
        };
        for (String last : breaks) {
            isIll("[" + " ".repeat(59 - last.length()) + last);
        }
        is("[" + " ".repeat(53) + "1]_def", 1, 1, Check.DEF);
    }

    /** What an older, longer text had behind the end of this one is gone. */
    private static void olderTexts() {
        OutwardTape tape = new OutwardTape();
        String whole = "[-inf,12.5e1]_com";
        for (int many = whole.length() - 1; many >= 0; many--) {
            Check.putText(tape, "[-12.5e01,12.5e1]_com");
            int cell = Check.putText(tape, whole.substring(0, many));
            if (many == whole.length() - 4) {
                Check.interval("literal " + whole.substring(0, many), tape, cell, -INF, 125, Check.DAC);
            } else {
                Check.ill("literal " + whole.substring(0, many), tape, cell);
            }
            if (tape.filled() > 36) {
                tape.clear();
            }
        }
    }

    private static void againstTheGrammar() {
        Samples samples = new Samples(5);
        for (int i = 0; i < ROUNDS; i++) {
            String text = samples.below(3) == 0 ? scrambled(samples) : likely(samples);
            if (text.length() <= 60) {
                Grammar.compare(text);
            }
        }
    }

    private static String scrambled(Samples samples) {
        StringBuilder text = new StringBuilder("[");
        int pieces = samples.below(6);
        for (int k = 0; k < pieces; k++) {
            text.append(PIECES[samples.below(PIECES.length)]);
        }
        return text.append(samples.below(8) == 0 ? "" : "]").toString();
    }

    private static String likely(Samples samples) {
        String marks = samples.below(3) == 0 ? "_" + new String[] {"com", "dac", "def", "trv", "xyz"}[samples.below(5)] : "";
        String first = end(samples);
        String last = samples.below(4) == 0 ? first : end(samples);
        return "[" + first + (samples.below(4) == 0 ? "" : "," + last) + "]" + marks;
    }

    private static String end(Samples samples) {
        int kind = samples.below(12);
        if (kind == 0) {
            return "";
        }
        if (kind == 1) {
            return new String[] {"inf", "-inf", "+infinity", "-INFINITY"}[samples.below(4)];
        }
        StringBuilder text = new StringBuilder(new String[] {"", "-", "+", " "}[samples.below(4)]);
        int many = kind < 4 ? 15 + samples.below(6) : 1 + samples.below(5);
        int point = samples.below(3) == 0 ? samples.below(many + 1) : -1;
        for (int k = 0; k < many; k++) {
            text.append(k == point ? "." : "").append(samples.below(4) == 0 ? 0 : samples.below(10));
        }
        if (samples.below(2) == 0) {
            text.append("e").append(samples.below(90) - 45);
        }
        return text.append(samples.below(5) == 0 ? " " : "").toString();
    }
}
