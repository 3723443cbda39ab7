import java.util.NoSuchElementException;

/** What the tests have in common: texts onto the tape, answers against what is due. */
final class Checks {
    private int wrong;
    /** The words of the document that are being tried; none: "". */
    private String sentence = "";

    /** A call that may throw. */
    interface Call {
        int ask();
    }

    /** What follows tries these words of the document. */
    void sentence(String words) {
        sentence = "[" + words + "] ";
    }

    void due(String what, long got, long want) {
        if (got != want) {
            wrong++;
            System.out.println(sentence + what + " answered " + got + ", due is " + want);
        }
    }

    void due(String what, boolean got, boolean want) {
        due(what, got ? 1 : 0, want ? 1 : 0);
    }

    void throwsNoSuch(String what, Call call) {
        int got;
        try {
            got = call.ask();
        } catch (NoSuchElementException e) {
            return;
        }
        wrong++;
        System.out.println(sentence + what + " answered " + got + ", due is NoSuchElementException");
    }

    /** Ends the test: exit code 1 if an answer was not as due. */
    void close(String name) {
        System.out.println(name + (wrong == 0 ? ": all answers are as due" : ": " + wrong + " answers are not as due"));
        if (wrong != 0) {
            System.exit(1);
        }
    }

    /** Puts a text on the tape, which must be empty. */
    static void feed(LongTrain x, String text) {
        for (int i = 0; i < text.length(); i += 20) {
            x.feed(word(text, i), word(text, i + 4), word(text, i + 8), word(text, i + 12), word(text, i + 16));
        }
        x.end(text.length());
    }

    private static int word(String text, int at) {
        int number = 0;
        for (int i = at; i < at + 4; i++) {
            number = number << 8 | (i < text.length() ? text.charAt(i) & 255 : 0);
        }
        return number;
    }

    static int line(LongTrain x, String text) {
        feed(x, text);
        return x.line();
    }

    static int plan(LongTrain x, String text) {
        feed(x, text);
        return x.plan();
    }

    static int loads(LongTrain x, int... halts) {
        StringBuilder text = new StringBuilder();
        for (int h : halts) {
            text.append((char) h);
        }
        feed(x, text.toString());
        return x.loads();
    }

    /** A new object with a LINE that has no FAULT. */
    LongTrain on(String text) {
        LongTrain x = new LongTrain();
        int rows = line(x, text);
        if (rows < 0) {
            due("line of '" + text + "' (fault " + x.fault() + ")", rows, 0);
        }
        return x;
    }

    /** A LINE or PLAN with a FAULT: its place and kind, and that it changes nothing. */
    void fault(boolean ofPlan, String text, int place, int kind) {
        LongTrain x = on("slope 0 9;wagon a 1 1 1;train a;");
        plan(x, "go 3;");
        x.go(2, 0);
        int got = ofPlan ? plan(x, text) : line(x, text);
        String name = (ofPlan ? "plan '" : "line '") + text + "'";
        due(name, got, -1 - place);
        due(name + " fault()", x.fault(), kind);
        due(name + " UNITS stay", x.count(0), 9);
        due(name + " HEAD stays", x.train(0), 2);
        due(name + " PLAN stays", x.count(9), 1);
        due(name + " empties the tape", x.count(10), 0);
    }

    /** All that is told of LINE, TRAIN, HALVES and PLAN. */
    static String told(LongTrain x) {
        StringBuilder s = new StringBuilder();
        for (int i = 0; i < 10; i++) {
            s.append(x.count(i)).append(' ');
        }
        for (int u = 0; u < x.count(0); u++) {
            s.append(x.grade(u)).append(' ');
        }
        for (int i = 0; i < 3; i++) {
            for (int h = 0; h < x.count(1); h++) {
                s.append(x.halt(h, i)).append(' ');
            }
            for (int l = 0; l < x.count(2); l++) {
                s.append(x.loop(l, i)).append(' ');
            }
            for (int k = 0; k < x.count(3); k++) {
                s.append(x.kind(k, i)).append(' ');
            }
        }
        for (int i = 0; i < 8; i++) {
            s.append(x.train(i)).append(' ');
        }
        for (int i = 0; i < x.train(1); i++) {
            for (int w = 0; w < 5; w++) {
                s.append(x.wagon(i, w)).append(' ');
            }
        }
        for (int k = 0; k < x.train(7); k++) {
            for (int w = 0; w < 5; w++) {
                s.append(x.half(k, w)).append(' ');
            }
        }
        return s.append(x.strain(0, 9, 0)).toString();
    }

    /** What calls told last. */
    static String latest(LongTrain x) {
        StringBuilder s = new StringBuilder();
        for (int i = 0; i < 6; i++) {
            s.append(x.placed(i)).append(' ').append(x.load(i)).append(' ').append(x.judged(i)).append(' ');
        }
        return s.toString();
    }
}
