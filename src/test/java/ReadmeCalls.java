import java.io.IOException;
import java.nio.file.Files;
import java.nio.file.Path;
import java.util.ArrayList;
import java.util.List;
import java.util.regex.Matcher;
import java.util.regex.Pattern;

/**
 * Makes a program of the Java that README.md shows: it does every call there, in the order of the
 * page, and tells each whose answer is not the one that stands behind it.
 *
 * <p>A block of Java that begins with 'static' is of the class, the others follow each other in its
 * main method. An answer stands behind its call: {@code x.go(5, 0); // 5: words of any sort}.
 */
final class ReadmeCalls {
    static final String NAME = "ReadmeShows";
    private static final Pattern CALL = Pattern.compile("x\\.\\w+\\([^;]*\\)");
    private static final Pattern ANSWER = Pattern.compile("(-?\\d+|true|false|NONE|throws \\w+)(:.*)?");

    private final StringBuilder members = new StringBuilder();
    private final StringBuilder statements = new StringBuilder();
    /** The calls shown, as they stand in the text. */
    final List<String> calls = new ArrayList<>();

    public static void main(String[] args) throws IOException {
        ReadmeCalls shown = new ReadmeCalls(Files.readString(Path.of(args[0])));
        Files.writeString(Path.of(args[1]), shown.source());
    }

    ReadmeCalls(String page) {
        List<String> block = null;
        for (String line : page.split("\n")) {
            if (block == null && line.strip().equals("```java")) {
                block = new ArrayList<>();
            } else if (block != null && line.strip().equals("```")) {
                take(block);
                block = null;
            } else if (block != null && line.strip().startsWith("```")) {
                throw new IllegalArgumentException("a block of Java within another");
            } else if (block != null) {
                block.add(line);
            }
        }
        if (block != null) {
            throw new IllegalArgumentException("a block of Java does not end");
        }
    }

    private void take(List<String> block) {
        if (!block.isEmpty() && block.get(0).startsWith("static ")) {
            members.append(String.join("\n", block)).append('\n');
            return;
        }
        for (String line : block) {
            takeLine(line);
        }
    }

    private void takeLine(String line) {
        int behind = line.indexOf("//");
        String code = (behind < 0 ? line : line.substring(0, behind)).strip();
        String call = code.endsWith(";") ? code.substring(0, code.length() - 1) : code;
        if (!CALL.matcher(call).matches()) {
            if (code.contains("x.")) {
                throw new IllegalArgumentException("one call a line, please: " + line);
            }
            statements.append(line).append('\n');
            return;
        }
        Matcher answer = ANSWER.matcher(behind < 0 ? "" : line.substring(behind + 2).strip());
        if (!answer.matches()) {
            throw new IllegalArgumentException("a call without its answer: " + line);
        }
        calls.add(call);
        String want = answer.group(1).equals("NONE") ? "-1" : answer.group(1);
        statements.append("try { told = String.valueOf(").append(call).append("); }")
                .append(" catch (RuntimeException e) { told = \"throws \" + e.getClass().getSimpleName(); }\n")
                .append("due(").append(quoted(call)).append(", told, ").append(quoted(want)).append(");\n");
    }

    private static String quoted(String text) {
        return '"' + text.replace("\\", "\\\\").replace("\"", "\\\"") + '"';
    }

    String source() {
        return "public final class " + NAME + " {\n"
                + "private static int wrong;\n"
                + "private static void due(String call, String got, String want) {\n"
                + "if (!got.equals(want)) { wrong++; System.out.println(\"README.md: \" + call + \" answered \" + got"
                + " + \", README.md says \" + want); }\n}\n"
                + members
                + "public static void main(String[] args) {\nString told;\n"
                + statements
                + "System.out.println(\"README.md: \" + wrong + \" answers are not as it says\");\n"
                + "if (wrong != 0) { System.exit(1); }\n}\n}\n";
    }
}
