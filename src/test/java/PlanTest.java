/** Promises 32 to 34: plan, judge, judged. */
public final class PlanTest {
    private static final Checks C = new Checks();
    private static final String LINE = "slope 0 20;wagon a 1 10 100;train a a a;engine 100 10;";

    private static void good(String text, int rows) {
        LongTrain x = C.on(LINE);
        C.due("plan '" + text + "'", Checks.plan(x, text), rows);
        C.due("plan '" + text + "' fault()", x.fault(), 0);
        C.due("plan '" + text + "' ROWS", x.count(9), rows);
    }

    private static void bad(String text, int place, int kind) {
        C.fault(true, text, place, kind);
    }

    private static String blanksTo(String text, int size) {
        return text + " ".repeat(size - text.length());
    }

    private static void texts() {
        good("", 0);
        good("go 1;go 400;sand 1;sand 400;help 0 1;help 19 999;off;cut 0;cut 19;rest;", 10);
        good("off;".repeat(30), 30);
        bad("off;".repeat(30) + "off", 120, 4);
        bad("off;".repeat(30) + "go 0;", 120, 4);
        bad("off;".repeat(30) + ";", 120, 1);
        bad("off;".repeat(30) + "rub", 120, 1);
        bad("go", 2, 1);
        bad("go 1", 4, 1);
        bad("go ;", 3, 1);
        bad("go a;", 3, 1);
        bad("go -1;", 3, 1);
        bad("go 1000;", 3, 1);
        bad("off 1;", 4, 1);
        bad("slope 0 1;", 0, 1);
        bad("stop;", 0, 1);
        bad("help 1;", 6, 1);
        bad("go 0;", 3, 2);
        bad("go 401;", 3, 2);
        bad("sand 0;", 5, 2);
        bad("sand 401;", 5, 2);
        bad("help 20 1;", 5, 2);
        bad("help 0 0;", 7, 2);
        bad("cut 20;", 4, 2);
        good(blanksTo("off;", 400), 1);
        bad(blanksTo("off;", 401), 400, 1);
        bad(blanksTo("off;", 399) + "rest;", 400, 1);
        bad(blanksTo("off;", 399) + "restrest;", 399, 1);
        bad(blanksTo("go", 399) + "401;", 399, 2);
        bad(blanksTo("go", 400) + "401;", 400, 1);
    }

    private static void judged(LongTrain x, int row, int... due) {
        C.due("judge(0)", x.judge(0), row);
        for (int w = 0; w < 6; w++) {
            C.due("judged(" + w + ")", x.judged(w), due[w]);
        }
    }

    private static LongTrain on(String plan) {
        LongTrain x = C.on(LINE);
        if (Checks.plan(x, plan) < 0) {
            C.due("plan '" + plan + "'", x.fault(), 0);
        }
        return x;
    }

    private static void wrongs() {
        LongTrain x = on("");
        C.due("judged(0) ahead of any", x.judged(0), -1);
        judged(x, -1, 0, 0, 0, 0, 3, 0);
        judged(on("go 3;sand 4;"), -1, 0, 7, 4, 7, 3, 0);
        judged(on("go 3;sand 400;"), 1, 2, 19, 16, 19, 3, 0);
        judged(on("help 3 1;"), 0, 3, 0, 0, 0, 3, 0);
        judged(on("help 2 1;help 2 1;help 0 1;help 2 1;off;help 0 1;"), -1, 0, 0, 0, 0, 3, 0);
        judged(on("help 2 1;help 2 1;help 0 1;help 2 1;help 0 1;"), 4, 5, 0, 0, 0, 3, 0);
        judged(on("help 2 1;help 2 1;help 0 1;help 2 1;help 3 1;"), 4, 3, 0, 0, 0, 3, 0);
        judged(on("off;"), 0, 4, 0, 0, 0, 3, 0);
        judged(on("help 0 1;off;off;"), 2, 4, 0, 0, 0, 3, 0);
        judged(on("help 1 1;cut 1;off;"), 2, 4, 0, 0, 0, 1, 1);
        judged(on("help 0 1;help 1 1;cut 1;off;"), -1, 0, 0, 0, 0, 1, 1);
        judged(on("cut 2;cut 1;cut 0;cut 0;"), 3, 3, 0, 0, 0, 0, 3);
        judged(on("cut 3;"), 0, 3, 0, 0, 0, 3, 0);
        judged(on("rest;"), 0, 6, 0, 0, 0, 3, 0);
        judged(on("go 1;rest;rest;"), 2, 6, 1, 0, 1, 3, 0);
        LongTrain y = C.on("slope 0 3;slope 9 20;engine 50 10;sand 20;wagon a 1 1 99;train a;");
        Checks.plan(y, "go 2;sand 9;off;");
        // LOAD 11 at 1, 2; 101 at 3, then 110: RUN-UP 39, 78, 47, 7, stalls
        judged(y, 1, 1, 4, 2, 4, 1, 0);
        C.due("judge(2)", y.judge(2), -2);
        C.due("judge(-1)", y.judge(-1), -2);
        C.due("judged stays", y.judged(1), 4);
        C.due("judged(6)", y.judged(6), -1);
        C.due("judged(-1)", y.judged(-1), -1);
        C.due("the TRAIN stays", y.train(0), 0);
        C.due("judge(1)", y.judge(1), 1);
        C.due("the TRAIN has gone", y.train(0), 4);
        C.due("RUN-UP", y.train(2), 7);
        judged(y, 0, 1, 0, 0, 4, 1, 0);
    }

    private static void helpers() {
        LongTrain x = on("help 1 50;help 2 7;");
        C.due("judge(1)", x.judge(1), -1);
        C.due("HELPERS", x.train(6), 2);
        C.due("LOAD", x.train(5), 40 - 57);
        int[] bears = {30 - 57, 20 - 57, 10 - 7};
        for (int i = 0; i < 3; i++) {
            C.due("wagon(" + i + ", 2)", x.wagon(i, 2), bears[i]);
            C.due("DRAG without HELPERS", x.wagon(i, 4), 10);
        }
        x.go(1, 0);
        C.due("RUN-UP", x.train(2), 100 + 17);
        C.due("WEAR by less than 0", x.wagon(0, 3), 0);
        C.due("WEAR", x.wagon(2, 3), 3);
        C.due("by the TRAIN at first", x.strain(1, 1, 0), 30);
        Checks.plan(x, "cut 2;");
        x.judge(1);
        C.due("one went with its WAGON", x.train(6), 1);
        C.due("HALVES", x.train(7), 1);
        C.due("where it stands", x.half(0, 1), -2);
        C.due("its DRAG", x.half(0, 4), 10);
        C.due("LOAD", x.train(5), 30 - 50);
        Checks.plan(x, "go 2;");
        x.judge(0);
        C.due("judged HEAD", x.judged(3), 3);
        C.due("HEAD", x.train(0), 1);
        x.judge(1);
        C.due("HEAD", x.train(0), 3);
        C.due("judged HALVES are all that stand", x.judged(5), 1);
        Checks.line(x, LINE);
        C.due("a new LINE has no HELPERS", x.train(6), 0);
        C.due("judged stays", x.judged(3), 3);
        C.due("judge() without a PLAN", x.judge(0), -1);
        C.due("judged", x.judged(3), 0);
    }

    /** What judge(0) does it does on a TRAIN like the one now, with its HELPERS and HALVES. */
    private static void triedOn() {
        LongTrain x = C.on("slope 9 20;engine 100 10;wagon a 1 10 999;train a a;");
        Checks.plan(x, "help 1 250;help 0 7;cut 1;");
        C.due("cut goes with its HELPER", x.judge(0), -1);
        C.due("judged HALVES", x.judged(5), 1);
        C.due("none stays", x.train(7), 0);
        Checks.plan(x, "help 1 250;");
        x.judge(1);
        Checks.plan(x, "go 5;off;rest;go 1;");
        judged(x, 3, 1, 5, 0, 5, 2, 0);
        Checks.plan(x, "cut 1;off;");
        judged(x, 1, 4, 0, 0, 0, 1, 1);
        C.due("its HELPER is still there", x.train(6), 1);
        C.due("its LOAD", x.train(5), 100 + 10 + 10 - 250);
        C.due("an empty PLAN", Checks.plan(x, ""), 0);
        C.due("is the PLAN now", x.count(9), 0);
        judged(x, -1, 0, 0, 0, 0, 2, 0);
    }

    private static void partedHelper() {
        // WAGON 1 parts on the grade with the HELPER at it; one that comes on in its place has none
        LongTrain x = C.on("slope 0 3;slope 9 9;halt h 6 9;wagon a 1 10 999;wagon b 1 10 60;adds h a;engine 999 1;train a b;wear 99;");
        Checks.plan(x, "help 1 30;");
        x.judge(1);
        C.due("go(4, 0)", x.go(4, 0), 4);
        C.due("HELPERS", x.train(6), 1);
        C.due("go(1, 0)", x.go(1, 0), 1);
        C.due("100 less 30 is more than 60", x.train(7), 1);
        C.due("its HELPER went", x.train(6), 0);
        x.go(1, 0);
        C.due("one came on", x.train(1), 2);
        C.due("its coupling bears all", x.wagon(1, 2), 100);
    }

    public static void main(String[] args) {
        texts();
        wrongs();
        helpers();
        triedOn();
        partedHelper();
        C.close("PlanTest");
    }
}
