import java.io.IOException;
import java.nio.file.Files;
import java.nio.file.Path;
import java.util.ArrayList;
import java.util.List;
import java.util.regex.Matcher;
import java.util.regex.Pattern;

/** README.md as the tests read it: its examples, line by line, and the Java that looks whether they hold. */
final class Readme {
    /** An example's line: perhaps a new name, the call, what README.md says of its answer, and why. */
    private static final Pattern LINE = Pattern.compile(
        "(?<name>int \\w+ = )?(?<call>[^;]*\\btape\\.(?<method>\\w+)\\(.*\\));(?: +// (?<said>[^:]+)(?:: .*)?)?");
    private static final String NEW_TAPE = "OutwardTape tape = new OutwardTape();";
    private static final String THROWS = "throws ";

    /** One call of an example; nothing is said of a call that answers nothing. */
    record Shown(String name, String call, String method, String said) {
        /** An answer as Check tells it, a boolean being 1 or 0; an exception has none. */
        Object answer() {
            if (said.startsWith(THROWS)) {
                return said;
            }
            if (said.equals("true") || said.equals("false")) {
                return said.equals("true") ? 1L : 0L;
            }
            if (said.contains(".")) {
                return Double.doubleToLongBits(Double.parseDouble(said));
            }
            return said.startsWith("0x") ? Long.parseUnsignedLong(said.substring(2, said.length() - 1), 16)
                : Long.parseLong(said);
        }

        private String asJava() {
            String what = "\"README.md: " + call.replace("\"", "\\\"") + "\"";
            if (said == null) {
                return call + ";";
            }
            if (said.startsWith(THROWS)) {
                return "Check.throwing(" + what + ", " + said.substring(THROWS.length()) + ".class, () -> " + call + ");";
            }
            if (said.contains(".")) {
                return "Check.due(" + what + ", " + call + " == " + said + ", true);";
            }
            return name == null ? "Check.due(" + what + ", " + call + ", " + said + ");"
                : name + call + "; Check.due(" + what + ", " + name.split(" ")[1] + ", " + said + ");";
        }
    }

    final String text;
    final List<List<Shown>> examples = new ArrayList<>();
    final List<String> notUnderstood = new ArrayList<>();
    private final StringBuilder java = new StringBuilder();

    Readme(Path file) throws IOException {
        text = Files.readString(file);
        boolean inside = false;
        for (String line : text.split("\n")) {
            if (line.startsWith("```")) {
                java.append(inside ? "}\n" : "{\n");
                inside = !inside;
            } else if (inside) {
                read(line);
            }
        }
    }

    private void read(String line) {
        if (line.equals(NEW_TAPE)) {
            examples.add(new ArrayList<>());
        }
        if (line.equals(NEW_TAPE) || line.startsWith("for (")) {
            java.append(line).append('\n');
            return;
        }
        Matcher parts = LINE.matcher(line);
        if (!parts.matches() || examples.isEmpty()) {
            notUnderstood.add(line);
            return;
        }
        Shown shown = new Shown(parts.group("name"), parts.group("call"), parts.group("method"), parts.group("said"));
        examples.get(examples.size() - 1).add(shown);
        java.append(shown.asJava()).append('\n');
    }

    /** A class whose method run makes all calls of the examples, and looks at each answer. */
    String asClass(String name) {
        return "final class " + name + " {\nstatic void run() {\n" + java + "}\n}\n";
    }
}
