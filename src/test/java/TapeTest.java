/** Promises 1 to 3: a new object, feed, end. */
public final class TapeTest {
    public static void main(String[] args) {
        Checks c = new Checks();
        LongTrain x = new LongTrain();
        int[] counts = {0, 0, 0, 0, 100, 1, 10, 10, 2, 0, 0};
        for (int i = 0; i < counts.length; i++) {
            c.due("new count(" + i + ")", x.count(i), counts[i]);
        }
        c.due("new fault()", x.fault(), 0);
        c.due("count(-1)", x.count(-1), -1);
        c.due("count(11)", x.count(11), -1);
        c.due("end(0) of an empty tape", x.end(0), true);
        c.due("end(1) of an empty tape", x.end(1), false);
        c.due("end(-1)", x.end(-1), false);
        for (int i = 1; i <= 47; i++) {
            c.due("feed " + i, x.feed(-1, 2, 3, 4, 5), 20 * i);
        }
        c.due("feed beyond 940", x.feed(1, 2, 3, 4, 5), -1);
        c.due("none came", x.count(10), 940);
        c.due("end(941)", x.end(941), false);
        c.due("end(940)", x.end(940), true);
        c.due("end(921)", x.end(921), true);
        c.due("921 and 20 are too many", x.feed(1, 2, 3, 4, 5), -1);
        c.due("end(920)", x.end(920), true);
        c.due("920 and 20 are not", x.feed(1, 2, 3, 4, 5), 940);
        c.due("line() of 940 bytes that are no TOKENS", x.line(), -1);
        c.due("its fault()", x.fault(), 1);
        c.due("the tape is empty then", x.count(10), 0);
        c.due("highest byte first", Checks.line(x, "rub 7;"), 1);
        c.due("rub", x.count(5), 7);
        c.close("TapeTest");
    }
}
