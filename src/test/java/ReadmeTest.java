import java.lang.reflect.Method;
import java.lang.reflect.Modifier;
import java.nio.file.Files;
import java.nio.file.Path;
import java.util.TreeSet;
import java.util.regex.Matcher;
import java.util.regex.Pattern;
import java.util.stream.Stream;

/**
 * README.md shows every call of the face with its answer and names every test; .ci/run does the calls
 * themselves, by the program that ReadmeCalls makes of the page.
 */
public final class ReadmeTest {
    private static final Checks C = new Checks();

    public static void main(String[] args) throws Exception {
        String page = Files.readString(Path.of("README.md"));
        everyCallIsShown(page);
        everyTestIsNamed(page);
        C.due("README.md says how to run the tests", page.contains("    .ci/run\n"), true);
        answersAreTaken();
        refusals();
        C.close("ReadmeTest");
    }

    private static void everyCallIsShown(String page) {
        ReadmeCalls shown = new ReadmeCalls(page);
        for (Method m : LongTrain.class.getDeclaredMethods()) {
            if (Modifier.isPublic(m.getModifiers())) {
                boolean found = shown.calls.stream().anyMatch(call -> call.startsWith("x." + m.getName() + "("));
                C.due("README.md shows " + m.getName(), found, true);
            }
        }
    }

    private static void everyTestIsNamed(String page) throws Exception {
        TreeSet<String> named = new TreeSet<>();
        Matcher row = Pattern.compile("(?m)^\\| (\\w+Test) \\|").matcher(page);
        while (row.find()) {
            named.add(row.group(1));
        }
        TreeSet<String> there = new TreeSet<>();
        try (Stream<Path> files = Files.list(Path.of("src/test/java"))) {
            files.map(f -> f.getFileName().toString()).filter(f -> f.endsWith("Test.java"))
                    .forEach(f -> there.add(f.substring(0, f.length() - ".java".length())));
        }
        C.due("README.md names " + named + ", the tests are " + there, named.equals(there), true);
    }

    private static String sourceOf(String... lines) {
        return new ReadmeCalls("words\n```java\n" + String.join("\n", lines) + "\n```\nwords").source();
    }

    private static void holds(String source, String part) {
        C.due("the program has '" + part + "'", source.contains(part), true);
    }

    /** What README.md says is what the program asks for, so that a wrong answer there is told. */
    private static void answersAreTaken() {
        holds(sourceOf("x.line();  // 3: ROWS"), "due(\"x.line()\", told, \"3\");");
        holds(sourceOf("x.line();  // 3: ROWS"), "told = String.valueOf(x.line());");
        holds(sourceOf("x.line(); // -18"), "due(\"x.line()\", told, \"-18\");");
        holds(sourceOf("x.load(2); // NONE: no WAGON"), "due(\"x.load(2)\", told, \"-1\");");
        holds(sourceOf("x.end(5); // false"), "due(\"x.end(5)\", told, \"false\");");
        holds(sourceOf("x.halt(9, 0); // throws NoSuchElementException"),
                "due(\"x.halt(9, 0)\", told, \"throws NoSuchElementException\");");
        holds(sourceOf("x.count(0); // 0", "x.fault(); // 1"), "due(\"x.fault()\", told, \"1\");");
        holds(sourceOf("tell(x, \"rub 1;\");"), "\ntell(x, \"rub 1;\");\n");
        holds(sourceOf("static int two() {", "    return 2;", "}"), "static int two() {\n    return 2;\n}\npublic static");
    }

    private static void refused(String block) {
        refusedPage("```java\n" + block + "\n```\n");
    }

    private static void refusedPage(String page) {
        boolean made;
        try {
            made = !new ReadmeCalls(page).source().isEmpty();
        } catch (IllegalArgumentException e) {
            made = false;
        }
        C.due("'" + page + "' is taken", made, false);
    }

    /** A call whose answer is not told must not go unseen. */
    private static void refusals() {
        refused("x.line();");
        refused("x.line(); // ROWS");
        refused("x.line(); // 3 ROWS");
        refused("int rows = x.line(); // 3");
        refused("x.line(); x.fault(); // 0");
        refusedPage("```java\nx.line(); // 3\n");
        refusedPage("```java\nx.line(); // 3\n```java\nx.fault(); // 0\n```\n");
    }
}
