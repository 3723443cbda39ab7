/** Promises 4 and 5: line and fault, by the text of a LINE. */
public final class LineTextTest {
    private static final Checks C = new Checks();

    private static void good(String text, int rows) {
        LongTrain x = new LongTrain();
        C.due("line '" + text + "'", Checks.line(x, text), rows);
        C.due("line '" + text + "' fault()", x.fault(), 0);
    }

    private static void bad(String text, int place, int kind) {
        C.fault(false, text, place, kind);
    }

    private static String times(String text, int n) {
        return text.repeat(n);
    }

    private static String blanksTo(String text, int size) {
        return text + " ".repeat(size - text.length());
    }

    private static void rows() {
        good("", 0);
        good(" \n \n", 0);
        good("slope 0 1;", 1);
        good("\nslope\n9\n99\n;\n", 1);
        good("slope-9 1;", 1);
        good("slope - 0 1;", 1);
        good("slope 009 099;", 1);
        good("slope 0 9;halt h 8 99;loop 8 99;wagon a 9 99 999;adds h a;engine 999 99;rub 9;sand 99;wear 99;walk 9;"
                + "train a a a a a a a a;", 11);
        good("slope 0 9;halt h 0 1;loop 0 1;wagon a 1 1 1;adds h a;engine 1 1;rub 0;sand 0;wear 1;walk 1;train a;", 11);
        good("wagon abcdefg 1 1 1;train abcdefg;", 2);
        good("slope 0 9;halt a 1 1;halt b 2 1;wagon c 1 1 1;wagon d 1 1 1;adds b c;adds a c;", 7);
    }

    private static void tokens() {
        bad("slope5 5;", 0, 1);
        bad("slope 5a 5;", 6, 1);
        bad("slope 0 0001;", 8, 1);
        bad("Slope 0 1;", 0, 1);
        bad("slope\t0 1;", 5, 1);
        bad("slope 0 1.", 9, 1);
        bad("wagon abcdefgh 1 1 1;", 6, 1);
        bad("wagon a" + (char) 233 + " 1 1 1;", 7, 1);
        bad("" + (char) 0, 0, 1);
        bad(";", 0, 1);
        bad("slope 0 1;;", 10, 1);
        bad("7;", 0, 1);
        bad("-", 0, 1);
        bad("hill 1;", 0, 1);
        bad("go 5;", 0, 1);
        bad("slope", 5, 1);
        bad("slope  \n", 8, 1);
        bad("slope 0 1", 9, 1);
        bad("slope - - 1 1;", 8, 1);
        bad("slope -;", 7, 1);
        bad("slope 1 - 1;", 8, 1);
        bad("slope 1 1 1;", 10, 1);
        bad("slope a 1;", 6, 1);
        bad("halt 5 1 1;", 5, 1);
        bad("slope 0 9;halt h a 1;", 17, 1);
        bad("slope 0 9;halt slope 1 1;", 15, 1);
        bad("wagon rest 1 1 1;", 6, 1);
        bad("wagon sand 1 1 1;", 6, 1);
        bad("adds go a;", 5, 1);
        bad("wagon a 1 1 1;train;", 19, 1);
        bad("wagon a 1 1 1;train a", 21, 1);
        bad("wagon a 1 1 1;train a 1;", 22, 1);
        bad("wagon a 1 1 1;train a off;", 22, 1);
    }

    private static void numbers() {
        bad("slope 10 5;", 6, 2);
        bad("slope -10 5;", 7, 2);
        bad("slope 0 0;", 8, 2);
        bad("slope 0 100;", 8, 2);
        bad("halt h 0 1;", 7, 2);
        bad("slope 0 9;halt h 9 1;", 17, 2);
        bad("slope 0 9;halt h 5 0;", 19, 2);
        bad("slope 0 9;halt h 5 100;", 19, 2);
        bad("slope 0 9;halt h 5 1;halt k 5 1;", 28, 2);
        bad("slope 0 9;halt h 5 1;halt k 4 1;", 28, 2);
        bad("loop 0 1;", 5, 2);
        bad("slope 0 9;loop 9 1;", 15, 2);
        bad("slope 0 9;loop 0 0;", 17, 2);
        bad("slope 0 9;loop 0 100;", 17, 2);
        bad("wagon a 0 1 1;", 8, 2);
        bad("wagon a 10 1 1;", 8, 2);
        bad("wagon a 1 0 1;", 10, 2);
        bad("wagon a 1 100 1;", 10, 2);
        bad("wagon a 1 1 0;", 12, 2);
        bad("engine 0 1;", 7, 2);
        bad("engine 1 0;", 9, 2);
        bad("engine 1 100;", 9, 2);
        bad("rub 10;", 4, 2);
        bad("sand 100;", 5, 2);
        bad("wear 0;", 5, 2);
        bad("wear 100;", 5, 2);
        bad("walk 0;", 5, 2);
        bad("walk 10;", 5, 2);
    }

    private static void names() {
        bad("wagon a 1 1 1;wagon a 1 1 1;", 20, 3);
        bad("slope 0 9;halt h 1 1;halt h 2 1;", 26, 3);
        bad("slope 0 9;halt h 1 1;wagon h 1 1 1;", 27, 3);
        bad("slope 0 9;wagon h 1 1 1;halt h 1 1;", 29, 3);
        bad("adds h a;", 5, 3);
        bad("wagon a 1 1 1;adds a a;", 19, 3);
        bad("slope 0 9;halt h 1 1;adds h h;", 28, 3);
        bad("slope 0 9;halt h 1 1;adds h z;", 28, 3);
        bad("slope 0 9;halt h 1 1;wagon a 1 1 1;adds h a;adds h a;", 49, 3);
        bad("slope 0 9;loop 5 1;loop 5 2;", 24, 3);
        bad("wagon a 1 1 1;train z;", 20, 3);
        bad("slope 0 9;halt h 1 1;train h;", 27, 3);
        for (String row : new String[] {"engine 1 1;", "rub 1;", "sand 1;", "wear 1;", "walk 1;"}) {
            bad(row + row, row.length(), 3);
            bad(row + row.substring(0, row.indexOf(' ')), row.length(), 3);
        }
        bad("wagon a 1 1 1;train a;train a;", 22, 3);
        good("slope 0 9;slope 0 9;wagon a 1 1 1;wagon ab 1 1 1;wagon b 1 1 1;", 5);
    }

    private static void tooMany() {
        good(times("slope 0 20;", 20), 20);
        bad(times("slope 0 1;", 20) + "slope", 200, 4);
        good(times("slope 0 99;", 4) + "slope 0 4;", 5);
        bad(times("slope 0 99;", 4) + "slope 0 5;", 52, 4);
        bad(times("slope 0 99;", 4) + "slope 0 100;", 52, 2);
        StringBuilder halts = new StringBuilder("slope 0 99;");
        StringBuilder loops = new StringBuilder("slope 0 99;");
        StringBuilder kinds = new StringBuilder();
        for (int i = 0; i < 10; i++) {
            halts.append("halt ").append((char) ('a' + i)).append(' ').append(i).append(" 1;");
            loops.append(i < 8 ? "loop " + i + " 1;" : "");
            kinds.append(i < 6 ? "wagon " + (char) ('a' + i) + " 1 1 1;" : "");
        }
        good(halts.toString(), 11);
        bad(halts + "halt 5", halts.length(), 4);
        good(loops.toString(), 9);
        bad(loops + "loop 0 1;", loops.length(), 4);
        good(kinds.toString(), 6);
        bad(kinds + "wagon a", kinds.length(), 4);
        bad("wagon a 1 1 1;train a a a a a a a a a;", 36, 4);
        bad("wagon a 1 1 1;train a a a a a a a a z;", 36, 3);
        bad("wagon a 1 1 1;train a a a a a a a a go;", 36, 1);
        bad("wagon a 1 1 1;train a a a a a a a a", 35, 1);
    }

    private static void longTexts() {
        good(blanksTo("rub 1;", 900), 1);
        bad(blanksTo("rub 1;", 901), 900, 1);
        bad(blanksTo("rub 1;", 940), 900, 1);
        bad(blanksTo("rub", 900), 900, 1);
        bad(blanksTo("rub", 940), 900, 1);
        bad(blanksTo("", 899) + "rub 1;", 900, 1);
        bad(blanksTo("rub 1;", 899) + "rub 1;", 899, 3);
        bad(blanksTo("rub 1;", 898) + "abcdefgh", 898, 1);
        bad(blanksTo("rub", 899) + "10;", 899, 2);
        bad(blanksTo("rub", 900) + "10;", 900, 1);
        bad(blanksTo("slope 10 1;", 940), 6, 2);
        good(blanksTo("rub", 898) + "1;", 1);
        bad(blanksTo("rub", 899) + "1;", 900, 1);
    }

    /** On a LINE without UNITS the engine is on no grade, whatever was told before. */
    private static void emptyAgain() {
        LongTrain x = C.on("slope 7 5;");
        Checks.line(x, "slope 8 5;");
        for (int i = 0; i < 3; i++) {
            C.due("line ''", Checks.line(x, ""), 0);
            C.due("LOAD on an empty LINE", x.train(5), 10);
            C.due("go(1, 0)", x.go(1, 0), 0);
            C.throwsNoSuch("grade(0)", () -> x.grade(0));
        }
    }

    private static void newLine() {
        LongTrain x = C.on("slope 0 20;wagon a 1 10 5;train a a;");
        Checks.plan(x, "go 1;");
        x.go(5, 0);
        C.due("it parted", x.train(7), 1);
        Checks.line(x, "");
        int[] due = {0, 0, 0, 1, 10, 10, 0, 0};
        for (int i = 0; i < due.length; i++) {
            C.due("train(" + i + ") on an empty LINE", x.train(i), due[i]);
        }
        C.due("no PLAN", x.count(9), 0);
        C.due("no UNITS", x.count(0), 0);
        Checks.line(x, "bad");
        C.due("fault() of the latest", x.fault(), 1);
        Checks.plan(x, "go 0;");
        C.due("fault() of plan()", x.fault(), 2);
        Checks.loads(x);
        C.due("fault() is not of loads()", x.fault(), 2);
        Checks.line(x, "rub 2;");
        C.due("fault() without one", x.fault(), 0);
    }

    public static void main(String[] args) {
        rows();
        tokens();
        numbers();
        names();
        tooMany();
        longTexts();
        newLine();
        emptyAgain();
        C.close("LineTextTest");
    }
}
