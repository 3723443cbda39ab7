import java.util.NoSuchElementException;

/** What the tests have in common: texts onto the tape, answers against what is due. */
final class Checks {
    private int wrong;

    /** A call that may throw. */
    interface Call {
        int ask();
    }

    void due(String what, long got, long want) {
        if (got != want) {
            wrong++;
            System.out.println(what + " answered " + got + ", due is " + want);
        }
    }

    void due(String what, boolean got, boolean want) {
        due(what, got ? 1 : 0, want ? 1 : 0);
    }

    void throwsNoSuch(String what, Call call) {
        int got;
        try {
            got = call.ask();
        } catch (NoSuchElementException e) {
            return;
        }
        wrong++;
        System.out.println(what + " answered " + got + ", due is NoSuchElementException");
    }

    /** Ends the test: exit code 1 if an answer was not as due. */
    void close(String name) {
        System.out.println(name + (wrong == 0 ? ": all answers are as due" : ": " + wrong + " answers are not as due"));
        if (wrong != 0) {
            System.exit(1);
        }
    }

    /** Puts a text on the tape, which must be empty. */
    static void feed(LongTrain x, String text) {
        for (int i = 0; i < text.length(); i += 20) {
            x.feed(word(text, i), word(text, i + 4), word(text, i + 8), word(text, i + 12), word(text, i + 16));
        }
        x.end(text.length());
    }

    private static int word(String text, int at) {
        int number = 0;
        for (int i = at; i < at + 4; i++) {
            number = number << 8 | (i < text.length() ? text.charAt(i) & 255 : 0);
        }
        return number;
    }

    static int line(LongTrain x, String text) {
        feed(x, text);
        return x.line();
    }

    static int plan(LongTrain x, String text) {
        feed(x, text);
        return x.plan();
    }

    static int loads(LongTrain x, int... halts) {
        StringBuilder text = new StringBuilder();
        for (int h : halts) {
            text.append((char) h);
        }
        feed(x, text.toString());
        return x.loads();
    }

    /** A new object with a LINE that has no FAULT. */
    LongTrain on(String text) {
        LongTrain x = new LongTrain();
        int rows = line(x, text);
        if (rows < 0) {
            due("line of '" + text + "' (fault " + x.fault() + ")", rows, 0);
        }
        return x;
    }

    /** A LINE or PLAN with a FAULT: its place and kind, and that it changes nothing. */
    void fault(boolean ofPlan, String text, int place, int kind) {
        LongTrain x = on("slope 0 9;wagon a 1 1 1;train a;");
        plan(x, "go 3;");
        x.go(2, 0);
        int got = ofPlan ? plan(x, text) : line(x, text);
        String name = (ofPlan ? "plan '" : "line '") + text + "'";
        due(name, got, -1 - place);
        due(name + " fault()", x.fault(), kind);
        due(name + " UNITS stay", x.count(0), 9);
        due(name + " HEAD stays", x.train(0), 2);
        due(name + " PLAN stays", x.count(9), 1);
        due(name + " empties the tape", x.count(10), 0);
    }
}
