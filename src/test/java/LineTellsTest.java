/** Promises 6, 7, 8, 16 and 39: grade, halt, kind, loop, count. */
public final class LineTellsTest {
    public static void main(String[] args) {
        Checks c = new Checks();
        LongTrain x = c.on("slope 3 2;slope-9 1;slope 0 2;halt h 0 7;halt k 4 99;loop 2 5;loop 0 99;wagon a 1 2 3;"
                + "wagon b 9 99 999;adds k b;engine 7 8;rub 0;sand 1;wear 2;walk 3;train b;");
        int[] grades = {3, 3, -9, 0, 0};
        for (int i = 0; i < grades.length; i++) {
            c.due("grade(" + i + ")", x.grade(i), grades[i]);
        }
        c.due("grade(-1)", x.grade(-1), 0);
        c.due("grade(-999)", x.grade(-999), 0);
        c.throwsNoSuch("grade(-1000)", () -> x.grade(-1000));
        c.throwsNoSuch("grade(5)", () -> x.grade(5));
        c.throwsNoSuch("grade(max)", () -> x.grade(Integer.MAX_VALUE));
        int[][] halts = {{0, 7, -1}, {4, 99, 1}};
        int[][] kinds = {{1, 2, 3}, {9, 99, 999}};
        int[][] loops = {{2, 5}, {0, 99}};
        for (int i = 0; i < 2; i++) {
            for (int w = 0; w < 3; w++) {
                c.due("halt(" + i + ", " + w + ")", x.halt(i, w), halts[i][w]);
                c.due("kind(" + i + ", " + w + ")", x.kind(i, w), kinds[i][w]);
                c.due("loop(" + i + ", " + w + ")", x.loop(i, w), w < 2 ? loops[i][w] : -1);
            }
        }
        int[][] wrong = {{-1, 0}, {2, 0}, {0, -1}, {0, 3}, {Integer.MAX_VALUE, 0}, {0, Integer.MIN_VALUE}};
        for (int[] w : wrong) {
            c.throwsNoSuch("halt(" + w[0] + ", " + w[1] + ")", () -> x.halt(w[0], w[1]));
            c.throwsNoSuch("kind(" + w[0] + ", " + w[1] + ")", () -> x.kind(w[0], w[1]));
            c.due("loop(" + w[0] + ", " + w[1] + ")", x.loop(w[0], w[1]), -1);
        }
        int[] counts = {5, 2, 2, 2, 7, 0, 1, 2, 3, 0, 0};
        for (int i = 0; i < counts.length; i++) {
            c.due("count(" + i + ")", x.count(i), counts[i]);
        }
        c.due("count(-1)", x.count(-1), -1);
        c.due("count(11)", x.count(11), -1);
        Checks.plan(x, "off;rest;");
        c.due("count(9) with a PLAN", x.count(9), 2);
        x.feed(1, 2, 3, 4, 5);
        c.due("count(10) with a tape", x.count(10), 20);
        c.due("the engine's WEIGHT and the WAGON's", x.train(4), 8 + 99);
        afterOthers(c);
        c.close("LineTellsTest");
    }

    /** Nothing of a LINE is left in a later one, whichever it is. */
    private static void afterOthers(Checks c) {
        LongTrain x = c.on("");
        int[] counts = {4, 0, 0, 0, 100, 1, 10, 10, 2, 0, 0};
        for (int n = 0; n < 4; n++) {
            Checks.line(x, "slope 3 9;halt h 1 1;halt k 2 2;loop 3 3;wagon a 1 2 3;adds h a;engine 7 8;rub 0;sand 1;wear 2;walk 3;train a a;");
            for (int i = 0; i <= n; i++) {
                c.due("rows of a short LINE", Checks.line(x, "slope 0 2;slope 1 2;"), 2);
                for (int w = 0; w < counts.length; w++) {
                    c.due("count(" + w + ") behind others", x.count(w), counts[w]);
                }
                c.due("WAGONS behind others", x.train(1), 0);
                c.due("WEIGHT behind others", x.train(4), 10);
                c.due("loop(0, 0) behind others", x.loop(0, 0), -1);
                c.due("grade(3) behind others", x.grade(3), 1);
            }
            c.due("NAMES of others are forgotten", Checks.line(x, "wagon a 1 1 1;slope 0 9;halt h 0 1;adds h a;train a;"), 5);
            c.due("what a HALT adds is told anew", Checks.line(x, "slope 0 9;halt h 0 1;wagon a 1 1 1;"), 3);
            c.due("halt(0, 2)", x.halt(0, 2), -1);
        }
    }
}
