import java.lang.reflect.Constructor;
import java.lang.reflect.Field;
import java.lang.reflect.Method;
import java.lang.reflect.Modifier;
import java.nio.file.Files;
import java.nio.file.Path;
import java.util.ArrayList;
import java.util.List;
import java.util.TreeSet;

/** The public face is the document's, and the source keeps to what of LANGUAGE.md can be seen in its text. */
public final class FaceTest {
    private static final String[] FACE = {"int feed(5)", "boolean end(1)", "int line(0)", "int fault(0)", "int grade(1)",
        "int halt(2)", "int kind(2)", "int train(1)", "int wagon(2)", "int half(2)", "int go(2)", "int strain(3)",
        "int squeeze(3)", "int span(3)", "int loop(2)", "int climb(3)", "int needed(2)", "int sanded(3)", "int helped(4)",
        "int lives(1)", "int longest(0)", "int placed(1)", "int platform(1)", "int cook(3)", "int back(3)", "int room(1)",
        "int loads(0)", "int load(1)", "int cross(5)", "int ring(4)", "int plan(0)", "int judge(1)", "int judged(1)",
        "int bet(1)", "int bets(3)", "boolean image(1)", "boolean restore(1)", "int count(1)"};
    private static final String[] FORBIDDEN = {"->", "::", "catch", "finally", "Exact(", "synchronized", "assert ",
        ".getMessage", "while (true)", "for (;;)", "try {", "static {", "System.out", "Random", "currentTimeMillis", "nanoTime", "Thread", "protected ", "new Exception"};

    public static void main(String[] args) throws Exception {
        Checks c = new Checks();
        TreeSet<String> due = new TreeSet<>(List.of(FACE));
        TreeSet<String> names = new TreeSet<>();
        for (String f : FACE) {
            names.add(f.substring(f.indexOf(' ') + 1, f.indexOf('(')));
        }
        TreeSet<String> got = new TreeSet<>();
        List<Class<?>> classes = new ArrayList<>(List.of(LongTrain.class.getDeclaredClasses()));
        for (Method m : LongTrain.class.getDeclaredMethods()) {
            if (Modifier.isPublic(m.getModifiers())) {
                got.add(m.getReturnType() + " " + m.getName() + "(" + m.getParameterCount() + ")");
            } else {
                c.due(m.getName() + " is private", Modifier.isPrivate(m.getModifiers()), true);
                c.due(m.getName() + " has a name of the face", names.contains(m.getName()), false);
            }
            c.due(m.getName() + " has more than seven parameters", m.getParameterCount() > 7, false);
        }
        c.due("the face is " + got, got.equals(due), true);
        for (Field f : LongTrain.class.getDeclaredFields()) {
            boolean shown = f.getName().equals("NONE");
            c.due(f.getName() + " is public", Modifier.isPublic(f.getModifiers()), shown);
            c.due(f.getName() + " is private", Modifier.isPrivate(f.getModifiers()), !shown);
        }
        c.due("NONE", LongTrain.NONE, -1);
        Constructor<?>[] made = LongTrain.class.getDeclaredConstructors();
        c.due("one constructor, without arguments", made.length == 1 && made[0].getParameterCount() == 0, true);
        c.due("the class is final", Modifier.isFinal(LongTrain.class.getModifiers()), true);
        c.due("at most twelve classes", classes.size() < 12, true);
        fields(c, LongTrain.class);
        for (Class<?> inner : classes) {
            fields(c, inner);
            c.due(inner.getName() + " is static", Modifier.isStatic(inner.getModifiers()), true);
            c.due(inner.getName() + " is public", Modifier.isPublic(inner.getModifiers()), false);
            for (Method m : inner.getDeclaredMethods()) {
                c.due(m + " has a name of the face", names.contains(m.getName()), false);
                c.due(m + " has more than seven parameters", m.getParameterCount() > 7, false);
            }
        }
        source(c, Files.readString(Path.of("src/main/java/LongTrain.java")));
        c.close("FaceTest");
    }

    private static final List<Class<?>> CONSTANTS = List.of(int.class, long.class, boolean.class, char.class,
            String.class, int[].class, long[].class, char[].class, byte[].class);

    /** Static fields are constants; some twenty others are enough for a class. */
    private static void fields(Checks c, Class<?> of) {
        int own = 0;
        for (Field f : of.getDeclaredFields()) {
            if (Modifier.isStatic(f.getModifiers())) {
                c.due(f + " is final", Modifier.isFinal(f.getModifiers()), true);
                c.due(f + " is a constant", CONSTANTS.contains(f.getType()), true);
            } else {
                own++;
            }
        }
        c.due(of.getName() + " has more than twenty fields", own > 20, false);
    }

    private static void source(Checks c, String text) {
        for (String word : FORBIDDEN) {
            c.due("the source has '" + word + "'", text.contains(word), false);
        }
        int imports = text.split("\nimport |^import ").length - 1;
        c.due("imports", imports, 1);
        int start = -1;
        String[] lines = text.split("\n");
        for (int i = 0; i < lines.length; i++) {
            if (lines[i].matches("    (    )?[^ /*].*\\) .*\\{")) {
                start = i;
            }
            if (start >= 0 && lines[i].matches("    (    )?\\}")) {
                c.due("lines of the method at line " + (start + 1) + " are more than 60", i - start > 60, false);
                start = -1;
            }
        }
    }
}
