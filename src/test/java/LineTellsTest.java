/** Promises 6, 7, 8, 16 and 39: grade, halt, kind, loop, count. */
public final class LineTellsTest {
    public static void main(String[] args) {
        Checks c = new Checks();
        LongTrain x = c.on("slope 3 2;slope-9 1;slope 0 2;halt h 0 7;halt k 4 99;loop 2 5;loop 0 99;wagon a 1 2 3;"
                + "wagon b 9 99 999;adds k b;engine 7 8;rub 0;sand 1;wear 2;walk 3;train b;");
        int[] grades = {3, 3, -9, 0, 0};
        for (int i = 0; i < grades.length; i++) {
            c.due("grade(" + i + ")", x.grade(i), grades[i]);
        }
        c.due("grade(-1)", x.grade(-1), 0);
        c.due("grade(-999)", x.grade(-999), 0);
        c.throwsNoSuch("grade(-1000)", () -> x.grade(-1000));
        c.throwsNoSuch("grade(5)", () -> x.grade(5));
        c.throwsNoSuch("grade(max)", () -> x.grade(Integer.MAX_VALUE));
        int[][] halts = {{0, 7, -1}, {4, 99, 1}};
        int[][] kinds = {{1, 2, 3}, {9, 99, 999}};
        int[][] loops = {{2, 5}, {0, 99}};
        for (int i = 0; i < 2; i++) {
            for (int w = 0; w < 3; w++) {
                c.due("halt(" + i + ", " + w + ")", x.halt(i, w), halts[i][w]);
                c.due("kind(" + i + ", " + w + ")", x.kind(i, w), kinds[i][w]);
                c.due("loop(" + i + ", " + w + ")", x.loop(i, w), w < 2 ? loops[i][w] : -1);
            }
        }
        int[][] wrong = {{-1, 0}, {2, 0}, {0, -1}, {0, 3}, {Integer.MAX_VALUE, 0}, {0, Integer.MIN_VALUE}};
        for (int[] w : wrong) {
            c.throwsNoSuch("halt(" + w[0] + ", " + w[1] + ")", () -> x.halt(w[0], w[1]));
            c.throwsNoSuch("kind(" + w[0] + ", " + w[1] + ")", () -> x.kind(w[0], w[1]));
            c.due("loop(" + w[0] + ", " + w[1] + ")", x.loop(w[0], w[1]), -1);
        }
        int[] counts = {5, 2, 2, 2, 7, 0, 1, 2, 3, 0, 0};
        for (int i = 0; i < counts.length; i++) {
            c.due("count(" + i + ")", x.count(i), counts[i]);
        }
        c.due("count(-1)", x.count(-1), -1);
        c.due("count(11)", x.count(11), -1);
        Checks.plan(x, "off;rest;");
        c.due("count(9) with a PLAN", x.count(9), 2);
        x.feed(1, 2, 3, 4, 5);
        c.due("count(10) with a tape", x.count(10), 20);
        c.due("the engine's WEIGHT and the WAGON's", x.train(4), 8 + 99);
        c.close("LineTellsTest");
    }
}
