import java.math.BigDecimal;
import java.util.LinkedHashSet;
import java.util.Set;

/** Promise 5, and of the terms: NUMBER, INFINITY and LITERAL, at every edge that they name. */
public final class EdgesOfLiteralsTest extends Edges {
    private static final String[] SAMPLES = {
        "[]", "[ ]", "[empty]", "[,]", "[entire]", "[nai]", "[1]", "[-1.5e2]", "[.5,]", "[,+5.]", "[-inf,7]", "[3,inf]",
        "[-infinity,+infinity]", "[ 1 , 2 ]", "[1,2]_com", "[1,2]_trv", "[2,]_dac", "[,2]_def", "[]_trv", "[empty]_trv",
        "[entire]_def", "[0e40]", "[9,10]", "[1.0e1,10]", "[-0,0]", "[ entire ]_dac", "[ empty ]", "[+1e-7,+1e+7]"
    };

    public static void main(String[] args) {
        emptyText();
        sets();
        greatLetters();
        signs();
        points();
        exponentsDigits();
        atMostEighteenDigits();
        zerosInFront();
        exponentLessDigitsBehind();
        exponentLimitOfZeros();
        greatestAndLeast();
        infinity();
        onePointOnly();
        missingEnds();
        whichInfinityWhere();
        notGreaterAsExactNumbers();
        spacesAllowed();
        spacesNowhereElse();
        nothingBeforeOrBehind();
        decorationsWithoutMark();
        decorationsWithMark();
        marksThatAreNone();
        longestTexts();
        everyScale();
        nearestToADouble();
        textsOneAfterAnother();
        everyTextOneCharacterAway();
        Check.finish();
    }

    private static void is(String inside, double value) {
        literal("[" + inside + "]", com(value));
    }

    private static void noNumber(String inside) {
        literal("[" + inside + "]", ILL);
        literal("[" + inside + ",]", ILL);
        literal("[," + inside + "]", ILL);
    }

    private static void emptyText() {
        literal("", ILL);
        literal(" ", ILL);
    }

    /** "[ ] or [ empty ]: the empty interval; [ , ] or [ entire ]: entire; [ nai ]: ILL" */
    private static void sets() {
        literal("[]", EMPTY);
        literal("[empty]", EMPTY);
        literal("[,]", dac(-INF, INF));
        literal("[entire]", dac(-INF, INF));
        literal("[nai]", ILL);
        for (String word : new String[] {"", "empty", ",", "entire", "nai", "1", "1,2", "1,", ",2"}) {
            literal("[" + word, ILL);
            literal(word + "]", ILL);
            literal(word, ILL);
            literal("[[" + word + "]]", ILL);
            literal("(" + word + ")", ILL);
            literal("{" + word + "}", ILL);
        }
        literal("[empty,]", ILL);
        literal("[,entire]", ILL);
        literal("[1,empty]", ILL);
        literal("[nai,1]", ILL);
        literal("[,,]", ILL);
        literal("[-empty]", ILL);
        literal("[+entire]", ILL);
    }

    /** "Great letters count as small ones": each letter alone, and all; the neighbours of A and Z are no letters. */
    private static void greatLetters() {
        great("[empty]_trv", EMPTY);
        great("[entire]_dac", dac(-INF, INF));
        great("[-inf,+inf]_def", def(-INF, INF));
        great("[-infinity,infinity]_trv", trv(-INF, INF));
        great("[1e1,2e1]_com", com(10, 20));
        great("[nai]", ILL);
        for (char c : new char[] {'@', '[', '`', '{', ']', '}', '_', '?'}) {
            literal("[" + c + "]", ILL);
            literal("[1]_c" + c + "m", ILL);
            literal(c + "1]", c == '[' ? com(1) : ILL);
            literal("[1" + c, c == ']' ? com(1) : ILL);
        }
    }

    private static void great(String text, Told due) {
        literal(text, due);
        literal(text.toUpperCase(), due);
        for (int i = 0; i < text.length(); i++) {
            String raised = text.substring(i, i + 1).toUpperCase();
            literal(text.substring(0, i) + raised + text.substring(i + 1), due);
        }
    }

    /** "perhaps + or -" */
    private static void signs() {
        is("5", 5);
        is("+5", 5);
        is("-5", -5);
        is("-0", 0.0);
        is("+0", 0.0);
        is("-.5", -0.5);
        is("+.5", 0.5);
        for (String none : new String[] {"++5", "--5", "+-5", "-+5", "5+", "5-", "+", "-", "*5", "~5", "5+5"}) {
            noNumber(none);
        }
    }

    /** "one or more digits, perhaps with one point . before, between or behind them" */
    private static void points() {
        is("7", 7);
        is(".5", 0.5);
        is("2.5", 2.5);
        is("25.", 25);
        is("12.25", 12.25);
        is("0.", 0.0);
        is(".0", 0.0);
        for (String none : new String[] {".", "+.", "-.", "..5", "5..", "2..5", ".2.5", "2.5.", "e5", ".e5", "-e5"}) {
            noNumber(none);
        }
        for (char c = '0'; c <= '9'; c++) {
            is("" + c, c - '0');
            is("1" + c, 10 + c - '0');
        }
        for (char c : new char[] {'/', ':'}) {
            noNumber("" + c);
            noNumber("1" + c);
            noNumber("1e" + c);
            noNumber("1e1" + c);
            noNumber("." + c);
        }
    }

    /** "then perhaps e, perhaps + or -, and one or two digits" */
    private static void exponentsDigits() {
        is("3e0", 3);
        is("3e00", 3);
        is("3e1", 30);
        is("3e01", 30);
        is("3e+1", 30);
        is("3e+01", 30);
        is("30e-1", 3);
        is("30e-01", 3);
        is("3e-0", 3);
        is("3e-00", 3);
        is("3e+10", 3e10);
        is("3.e1", 30);
        is(".3e1", 3);
        for (String none : new String[] {
            "3e", "3e+", "3e-", "3e000", "3e001", "3e+001", "3e-001", "3e100", "3e.", "3e1.", "3e1.0", "3e1e1", "3ee1",
            "3e++1", "3e+-1", "3e1+", "3e1-1", "3f1", "3d1", "e", "e1"
        }) {
            noNumber(none);
        }
    }

    /** "Its digits, without those 0 that stand in front of all others, are at most 18" */
    private static void atMostEighteenDigits() {
        sameNumber("12345678901234567e-17", "0.12345678901234567");
        is("100000000000000000", 1e17);
        noNumber("1000000000000000000");
        literal("[99999999999999999]", com(99999999999999984.0, 1e17));
        literal("[999999999999999999]", com(below(1e18), 1e18));
        noNumber("9999999999999999999");
        is("1.0000000000000000", 1);
        is("1.00000000000000000", 1);
        noNumber("1.000000000000000000");
        is("10000000000000000.0", 1e16);
        is("100000000000000000.", 1e17);
        noNumber("100000000000000000.0");
        noNumber("1000000000000000000.");
        is("500000000000000000e-18", 0.5);
        noNumber("5000000000000000000e-19");
        is(".500000000000000000", 0.5);
        noNumber(".5000000000000000000");
        literal("[1,999999999999999999]", com(1, 1e18));
        literal("[1,9999999999999999999]", ILL);
        literal("[1000000000000000000,2000000000000000000]", ILL);
    }

    /** Both are numbers, and the same. */
    private static void sameNumber(String inside, String other) {
        OutwardTape tape = new OutwardTape();
        int first = Check.putText(tape, "[" + inside + "]");
        int second = Check.putText(tape, "[" + other + "]");
        Check.due(inside + " is a number", tape.decoration(first), Check.COM);
        Check.due(inside + " is not 0", tape.number(1, first) > 0, true);
        Check.due(inside + " is the same as " + other, tape.relation(0, first, second), true);
    }

    private static double down(String number) {
        return Reference.decimal(new BigDecimal(number), false);
    }

    private static double up(String number) {
        return Reference.decimal(new BigDecimal(number), true);
    }

    /** "without those 0 that stand in front of all others", before and behind the point */
    private static void zerosInFront() {
        is("0" + "100000000000000000", 1e17);
        is("0".repeat(40) + "100000000000000000", 1e17);
        is("0".repeat(40) + "7", 7);
        is("0.0" + "500000000000000000e1", 0.5);
        is("0".repeat(20) + ".0" + "500000000000000000e1", 0.5);
        noNumber("0" + "1000000000000000000");
        noNumber("0.0" + "5000000000000000000e1");
        is("0".repeat(18), 0.0);
        is("0".repeat(19), 0.0);
        is("0".repeat(40), 0.0);
        is("0." + "0".repeat(19), 0.0);
        is("0".repeat(20) + "." + "0".repeat(20), 0.0);
        is("-" + "0".repeat(19), 0.0);
    }

    /** "the exponent less the number of digits behind the point is -40 .. 40" */
    private static void exponentLessDigitsBehind() {
        sameNumber("1e39", "10e38");
        literal("[1e40]", com(below(1e40), 1e40));
        noNumber("1e41");
        literal("[1.e40]", com(below(1e40), 1e40));
        noNumber("1.e41");
        literal("[.1e41]", com(below(1e40), 1e40));
        noNumber(".1e42");
        noNumber("1.0e42");
        literal("[1.0e41]", com(below(1e41), 1e41));
        literal("[0.01e42]", com(below(1e40), 1e40));
        noNumber("0.01e43");
        literal("[1e-39]", com(1e-39, above(1e-39)));
        literal("[1e-40]", com(down("1e-40"), up("1e-40")));
        noNumber("1e-41");
        noNumber("1.0e-40");
        noNumber(".1e-40");
        sameNumber("1.0e-39", "10e-40");
        sameNumber("5.e-40", "5e-40");
        noNumber("5.0e-40");
        sameNumber("0." + "0".repeat(39) + "1", "1e-40");
        noNumber("0." + "0".repeat(40) + "1");
        sameNumber("." + "0".repeat(37) + "125", "125e-40");
        noNumber("." + "0".repeat(37) + "1250");
        noNumber("1e99");
        noNumber("1e-99");
        noNumber("1e50");
        noNumber("1e-50");
        sameNumber("." + "0".repeat(52) + "1e93", "1e40");
        noNumber("." + "0".repeat(52) + "1e94");
        sameNumber("1" + "0".repeat(17) + "e-40", "1e-23");
        noNumber("1" + "0".repeat(17) + "e-41");
    }

    /** The limit is the number's, whatever its digits are. */
    private static void exponentLimitOfZeros() {
        is("0e40", 0.0);
        noNumber("0e41");
        is("0e-40", 0.0);
        noNumber("0e-41");
        is("0.0e41", 0.0);
        noNumber("0.0e42");
        is("0.0e-39", 0.0);
        noNumber("0.0e-40");
        is("0." + "0".repeat(40), 0.0);
        noNumber("0." + "0".repeat(41));
        noNumber("0e99");
    }

    private static void greatestAndLeast() {
        literal("[999999999999999999e40]", com(1e58, above(1e58)));
        literal("[-999999999999999999e40]", com(-above(1e58), -1e58));
        literal("[-999999999999999999e40,999999999999999999e40]", com(-above(1e58), above(1e58)));
        literal("[-1e-40,1e-40]", com(-above(1e-40), above(1e-40)));
    }

    /** "INFINITY is perhaps + or -, then inf or infinity." */
    private static void infinity() {
        for (String word : new String[] {"inf", "infinity"}) {
            literal("[-" + word + "," + word + "]", dac(-INF, INF));
            literal("[-" + word + ",+" + word + "]", dac(-INF, INF));
            literal("[-" + word + ",5]", dac(-INF, 5));
            literal("[5," + word + "]", dac(5, INF));
            literal("[5,+" + word + "]", dac(5, INF));
            literal("[--" + word + ",5]", ILL);
            literal("[5,++" + word + "]", ILL);
            literal("[5,- " + word + "]", ILL);
            for (int cut = 1; cut < word.length(); cut++) {
                if (cut != 3) {
                    literal("[5," + word.substring(0, cut) + "]", ILL);
                    literal("[-" + word.substring(0, cut) + ",5]", ILL);
                }
            }
            literal("[5," + word + "y]", ILL);
            literal("[5," + word + "e1]", ILL);
            literal("[5," + word + "1]", ILL);
            literal("[5,1" + word + "]", ILL);
            literal("[-" + word + "inf,5]", ILL);
        }
        literal("[nan,5]", ILL);
        literal("[5,nai]", ILL);
    }

    /** "[ x ], x a number": no infinity, no second comma */
    private static void onePointOnly() {
        is("5", 5);
        for (String none : new String[] {
            "inf", "-inf", "+inf", "infinity", "-infinity", "+infinity", "5 5", "5;5", "5,5,5"
        }) {
            literal("[" + none + "]", ILL);
        }
    }

    /** "or nothing at all (which is minus infinity)", "or nothing (plus infinity)" */
    private static void missingEnds() {
        literal("[,5]", dac(-INF, 5));
        literal("[5,]", dac(5, INF));
        literal("[,]", dac(-INF, INF));
        literal("[,inf]", dac(-INF, INF));
        literal("[-inf,]", dac(-INF, INF));
        literal("[,-5]", dac(-INF, -5));
        literal("[-5,]", dac(-5, INF));
        literal("[,0]", dac(-INF, 0.0));
        literal("[+,5]", ILL);
        literal("[5,-]", ILL);
        literal("[.,5]", ILL);
    }

    /** "x being a number, minus infinity ..", "y a number, plus infinity .."; "inf without a sign is plus infinity" */
    private static void whichInfinityWhere() {
        for (String plus : new String[] {"inf", "+inf", "infinity", "+infinity"}) {
            literal("[" + plus + ",]", ILL);
            literal("[" + plus + ",5]", ILL);
            literal("[" + plus + "," + plus + "]", ILL);
            literal("[" + plus + ",-inf]", ILL);
            literal("[5," + plus + "]", dac(5, INF));
        }
        for (String minus : new String[] {"-inf", "-infinity"}) {
            literal("[," + minus + "]", ILL);
            literal("[5," + minus + "]", ILL);
            literal("[" + minus + "," + minus + "]", ILL);
            literal("[" + minus + ",5]", dac(-INF, 5));
        }
    }

    /** "x not greater than y (as exact numbers)": even where the doubles next to them are the same */
    private static void notGreaterAsExactNumbers() {
        literal("[1,1]", com(1));
        literal("[1,2]", com(1, 2));
        literal("[2,1]", ILL);
        literal("[-2,-1]", com(-2, -1));
        literal("[-1,-2]", ILL);
        literal("[-1,1]", com(-1, 1));
        literal("[1,-1]", ILL);
        literal("[0.1,0.1]", com(below(0.1), 0.1));
        literal("[0.1,0.100000000000000001]", com(below(0.1), 0.1));
        literal("[0.100000000000000001,0.1]", ILL);
        literal("[0.1,0.099999999999999999]", ILL);
        literal("[0.099999999999999999,0.1]", com(below(0.1), 0.1));
        literal("[-0.1,-0.100000000000000001]", ILL);
        literal("[-0.100000000000000001,-0.1]", com(-0.1, -below(0.1)));
        literal("[999999999999999998e40,999999999999999999e40]", com(1e58, above(1e58)));
        literal("[999999999999999999e40,999999999999999998e40]", ILL);
        literal("[100,1e2]", com(100));
        literal("[1e2,100]", com(100));
        literal("[100.0,10e1]", com(100));
        literal("[1e2,99.9999999999999999]", ILL);
        literal("[1e2,100.000000000000001]", com(100, above(100)));
        literal("[1e40,1]", ILL);
        literal("[1,1e40]", com(1, 1e40));
        literal("[1e-40,1]", com(down("1e-40"), 1));
        literal("[1,1e-40]", ILL);
        literal("[-1e40,-1]", com(-1e40, -1));
        literal("[-1,-1e40]", ILL);
        literal("[1e18,100000000000000000e1]", com(1e18));
        literal("[100000000000000001e1,1e18]", ILL);
        literal("[1e18,100000000000000001e1]", com(1e18, above(1e18)));
        literal("[1e17,100000000000000000]", com(1e17));
        literal("[1e17,99999999999999999]", ILL);
        literal("[1e40,100000000000000000e23]", com(below(1e40), 1e40));
        literal("[1e40,999999999999999999e22]", ILL);
        literal("[0,0]", com(0.0));
        literal("[-0,+0]", com(0.0));
        literal("[0,-0]", com(0.0));
        literal("[0e40,0e-40]", com(0.0));
        literal("[0e-40,0e40]", com(0.0));
        literal("[-0e-40,-0e40]", com(0.0));
        literal("[0,1e-40]", com(0, up("1e-40")));
        literal("[1e-40,0]", ILL);
        literal("[0,-1e-40]", ILL);
        literal("[-1e-40,0]", com(down("-1e-40"), 0));
        literal("[0e40,1e-40]", com(0, up("1e-40")));
        literal("[1e-40,0e40]", ILL);
    }

    /** "with spaces allowed between [ , words, numbers, commas and ]" */
    private static void spacesAllowed() {
        for (String s : new String[] {"", " ", "  ", "     "}) {
            literal("[" + s + "]", EMPTY);
            literal("[" + s + "empty" + s + "]", EMPTY);
            literal("[" + s + "entire" + s + "]", dac(-INF, INF));
            literal("[" + s + "nai" + s + "]", ILL);
            literal("[" + s + "," + s + "]", dac(-INF, INF));
            literal("[" + s + "1" + s + "]", com(1));
            literal("[" + s + "1" + s + "," + s + "2" + s + "]", com(1, 2));
            literal("[" + s + "1" + s + "," + s + "]", dac(1, INF));
            literal("[" + s + "," + s + "2" + s + "]", dac(-INF, 2));
            literal("[" + s + "-inf" + s + "," + s + "+inf" + s + "]_def", def(-INF, INF));
            literal("[" + s + "-1.5e1" + s + "," + s + "+.5" + s + "]_com", com(-15, 0.5));
        }
    }

    /** "(and nowhere else)": a space put anywhere else makes it no literal */
    private static void spacesNowhereElse() {
        noSpaceInside("[empty]", 1, 6);
        noSpaceInside("[entire]", 1, 7);
        noSpaceInside("[1]_com", 1, 2);
        noSpaceInside("[-12.5e+10]", 1, 10);
        noSpaceInside("[-inf,+infinity]_trv", 1, 5, 6, 15);
        noSpaceInside("[]_trv", 1);
        noSpaceInside("[,]_dac", 1, 2);
        literal("[\"1\"]", ILL);
    }

    /** A space before each character but those at these places, and one behind the last. */
    private static void noSpaceInside(String text, int... allowed) {
        for (int i = 0; i <= text.length(); i++) {
            boolean mayStand = false;
            for (int place : allowed) {
                mayStand |= place == i;
            }
            OutwardTape tape = new OutwardTape();
            String spaced = text.substring(0, i) + " " + text.substring(i);
            int cell = Check.putText(tape, spaced);
            Check.due("literal " + spaced, tape.decoration(cell) != Check.ILL, mayStand);
        }
    }

    /** "Nothing may stand before or behind a literal." */
    private static void nothingBeforeOrBehind() {
        for (char c = 32; c <= 126; c++) {
            for (String text : new String[] {"[1]", "[]", "[1,2]_def", "[entire]", "[,]_trv"}) {
                literal(c + text, ILL);
                literal(text + c, ILL);
            }
        }
        literal("[1][1]", ILL);
        literal("[1]_com_com", ILL);
        literal("[1]_com[1]", ILL);
    }

    /** "Without it the decoration is COM if the interval is bounded, DAC if it is neither that nor empty, TRV .." */
    private static void decorationsWithoutMark() {
        literal("[1]", com(1));
        literal("[-1,1]", com(-1, 1));
        literal("[1,]", dac(1, INF));
        literal("[,1]", dac(-INF, 1));
        literal("[1,inf]", dac(1, INF));
        literal("[-inf,1]", dac(-INF, 1));
        literal("[,]", dac(-INF, INF));
        literal("[entire]", dac(-INF, INF));
        literal("[]", EMPTY);
        literal("[empty]", EMPTY);
    }

    /** "Then perhaps _ and com, dac, def or trv (not behind [ nai ])"; "it is ILL with com for one that is not .." */
    private static void decorationsWithMark() {
        String[] marks = {"_trv", "_def", "_dac", "_com"};
        for (int mark = Check.TRV; mark <= Check.COM; mark++) {
            String behind = marks[mark - 1];
            literal("[1,2]" + behind, new Told(1, 2, mark));
            literal("[1]" + behind, new Told(1, 1, mark));
            literal("[0]" + behind, new Told(0.0, 0.0, mark));
            literal("[1,]" + behind, mark == Check.COM ? ILL : new Told(1, INF, mark));
            literal("[,1]" + behind, mark == Check.COM ? ILL : new Told(-INF, 1, mark));
            literal("[-inf,1]" + behind, mark == Check.COM ? ILL : new Told(-INF, 1, mark));
            literal("[,]" + behind, mark == Check.COM ? ILL : new Told(-INF, INF, mark));
            literal("[entire]" + behind, mark == Check.COM ? ILL : new Told(-INF, INF, mark));
            literal("[]" + behind, mark == Check.TRV ? EMPTY : ILL);
            literal("[ ]" + behind, mark == Check.TRV ? EMPTY : ILL);
            literal("[empty]" + behind, mark == Check.TRV ? EMPTY : ILL);
            literal("[nai]" + behind, ILL);
            literal("[2,1]" + behind, ILL);
            literal("[x]" + behind, ILL);
            literal("1" + behind, ILL);
            literal(behind, ILL);
        }
    }

    private static void marksThatAreNone() {
        for (String mark : new String[] {
            "_", "__com", "com", "-com", "_c", "_co", "_comm", "_ill", "_nai", "_tr", "_trvv", "_de", "_deff", "_da",
            "_dacc", "_com,dac", "_4", "_com_", "_dec", "_tac", "_dom"
        }) {
            literal("[1]" + mark, ILL);
            literal("[]" + mark, ILL);
            literal("[1,]" + mark, ILL);
        }
    }

    /** Texts of 60 characters, the most that there are, read to the last one. */
    private static void longestTexts() {
        literal("[" + " ".repeat(58) + "]", EMPTY);
        literal("[" + "0".repeat(57) + "8]", com(8));
        literal("[" + " ".repeat(53) + "8]_trv", trv(8, 8));
        literal("[" + " ".repeat(52) + "entire]", dac(-INF, INF));
        literal("[" + "0".repeat(27) + "1," + "0".repeat(28) + "2]", com(1, 2));
        literal("[" + " ".repeat(59), ILL);
        literal("[" + " ".repeat(58) + "1", ILL);
        literal("[" + " ".repeat(54) + "1]_tr", ILL);
        literal("[" + " ".repeat(54) + "empty", ILL);
        literal("[" + " ".repeat(55) + "1e+1", ILL);
    }

    /** From -40 to 40, the fewest and the most digits, rounded either way. */
    private static void everyScale() {
        String[] digits = {
            "1", "2", "5", "7", "9", "99", "1".repeat(18), "9".repeat(17), "9".repeat(18), "5".repeat(18)
        };
        for (int scale = -41; scale <= 41; scale++) {
            for (String all : digits) {
                Grammar.compare("[" + all + "e" + scale + "]");
                Grammar.compare("[-" + all + "e" + scale + "]");
                Grammar.compare("[." + all + "e" + (scale + all.length()) + "]");
            }
        }
        for (int point = 0; point <= 18; point++) {
            for (char digit = '1'; digit <= '9'; digit++) {
                String all = String.valueOf(digit).repeat(18);
                Grammar.compare("[" + all.substring(0, point) + "." + all.substring(point) + "]");
            }
        }
    }

    /** The decimal numbers that come nearest to a double without being one, above and below it. */
    private static void nearestToADouble() {
        String[] numbers = {
            "961935638846030711e37", "261662474379968843e33", "945584020171432629e-33", "945584020171432629e-34",
            "247201515998363343e35", "483974452406758157e40", "176799803764893423e-31", "883999018824467115e-32",
            "412002526663938905e34", "778956024633093813e-29", "670799766809950217e32", "595833608565072371e-27",
            "483182414246996419e-40", "275131932683924741e40", "33199761964788993e-40", "26105314965354177e39"
        };
        for (String number : numbers) {
            Check.due(number + " is no double", up(number) == above(down(number)), true);
            literal("[" + number + "]", com(down(number), up(number)));
            literal("[-" + number + "]", com(-up(number), -down(number)));
        }
    }

    /** What one text said does not reach into what the next one says. */
    private static void textsOneAfterAnother() {
        for (String first : SAMPLES) {
            for (String second : SAMPLES) {
                OutwardTape tape = new OutwardTape();
                Grammar.due(first).due("literal " + first, tape, Check.putText(tape, first));
                Grammar.due(second).due(second + " behind " + first, tape, Check.putText(tape, second));
            }
        }
    }

    /** All texts that come of these by one character changed, put in or left out, against the grammar. */
    private static void everyTextOneCharacterAway() {
        Set<String> texts = new LinkedHashSet<>();
        for (String sample : SAMPLES) {
            for (int i = 0; i <= sample.length(); i++) {
                String before = sample.substring(0, i);
                String behind = sample.substring(Math.min(i + 1, sample.length()));
                texts.add(before + behind);
                for (char c = 32; c <= 126; c++) {
                    texts.add(before + c + behind);
                    texts.add(before + c + sample.substring(i));
                }
            }
        }
        for (String text : texts) {
            Grammar.compare(text);
        }
    }
}
