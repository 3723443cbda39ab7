/** Promises 37 and 38: image, restore. */
public final class ImageTest {
    public static void main(String[] args) {
        Checks c = new Checks();
        LongTrain x = c.on("slope 0 9;slope 1 9;halt h 5 9;loop 3 7;wagon a 1 10 99;wagon b 2 10 50;adds h b;"
                + "engine 300 20;rub 2;sand 3;wear 4;walk 5;train a b a b;");
        c.due("restore(0) of nothing", x.restore(0), false);
        c.due("restore(1) of nothing", x.restore(1), false);
        Checks.plan(x, "help 0 50;go 2;cut 3;");
        x.judge(1);
        Checks.plan(x, "go 1;off;");
        c.due("image(0)", x.image(0), true);
        String was = Checks.told(x);
        x.go(8, 0);
        c.due("image(1)", x.image(1), true);
        String then = Checks.told(x);
        c.due("they differ", was.equals(then), false);
        x.longest();
        Checks.loads(x, 0, 0);
        x.judge(0);
        String latest = Checks.latest(x);
        Checks.line(x, "bad");
        x.feed(0, 0, 0, 0, 0);
        c.due("restore(0)", x.restore(0), true);
        same(c, "as kept in 0", Checks.told(x), was);
        same(c, "what other calls told stays", Checks.latest(x), latest);
        c.due("fault() stays", x.fault(), 1);
        c.due("the tape stays", x.count(10), 20);
        x.end(0);
        c.due("restore(1)", x.restore(1), true);
        same(c, "as kept in 1", Checks.told(x), then);
        Checks.line(x, "");
        x.go(3, 0);
        c.due("restore(1) again", x.restore(1), true);
        same(c, "as kept in 1, again", Checks.told(x), then);
        x.go(2, 1);
        Checks.plan(x, "rest;");
        c.due("restore(1) after MOVES", x.restore(1), true);
        same(c, "the image is not changed by what follows", Checks.told(x), then);
        x.restore(0);
        c.due("image(1) once more", x.image(1), true);
        Checks.line(x, "");
        x.restore(1);
        same(c, "the latest image counts", Checks.told(x), was);
        for (int k : new int[] {-1, 2, Integer.MIN_VALUE, Integer.MAX_VALUE}) {
            c.due("image(" + k + ")", x.image(k), false);
            c.due("restore(" + k + ")", x.restore(k), false);
        }
        same(c, "nothing is changed by that", Checks.told(x), was);
        full(c);
        c.close("ImageTest");
    }

    /** As many of all as there may be, and HALVES; all of it other than what is there when it is restored. */
    private static void full(Checks c) {
        LongTrain x = begun(c);
        x.image(0);
        String was = Checks.told(x) + tried(x);
        c.due("another full LINE", Checks.line(x, fullLine(2, 5)), 56);
        Checks.plan(x, "go 2;cut 7;cut 3;cut 0;");
        x.judge(1);
        Checks.plan(x, "sand 3;help 0 9;off;go 1;go 2;rest;");
        x.image(1);
        String then = Checks.told(x) + tried(x);
        x.restore(0);
        same(c, "all as kept in 0", Checks.told(x) + tried(x), was);
        x.restore(1);
        same(c, "all as kept in 1", Checks.told(x) + tried(x), then);
        Checks.line(x, fullLine(3, 2));
        Checks.plan(x, "help 3 3;help 4 4;help 5 5;help 6 6;help 7 8;");
        x.restore(0);
        LongTrain y = begun(c);
        c.due("judge(1) behind restore()", x.judge(1), -1);
        c.due("judge(1) without", y.judge(1), -1);
        same(c, "it goes on as one that never was restored", Checks.told(x), Checks.told(y));
    }

    /** On a full LINE, with HALVES, HELPERS and a PLAN to be done. */
    private static LongTrain begun(Checks c) {
        LongTrain x = c.on(fullLine(1, 3));
        Checks.plan(x, "help 7 20;help 1 10;go 3;cut 6;cut 4;off;help 1 30;");
        c.due("judge(1)", x.judge(1), -1);
        Checks.plan(x, "go 5;sand 2;help 0 7;cut 2;cut 1;");
        return x;
    }

    private static String fullLine(int from, int by) {
        StringBuilder s = new StringBuilder();
        for (int i = 0; i < 20; i++) {
            s.append("slope ").append((from + i * by) % 10).append(" 3;");
        }
        for (int k = 0; k < 6; k++) {
            s.append("wagon k").append((char) ('a' + k)).append(' ').append(1 + (from + k) % 3).append(' ');
            s.append(1 + (k * by + from) % 7).append(' ').append(900 + k + by).append(';');
        }
        for (int h = 0; h < 10; h++) {
            char name = (char) ('a' + h);
            s.append("halt h").append(name).append(' ').append(from + h * by).append(' ').append(h + by).append(';');
            s.append("adds h").append(name).append(" k").append((char) ('a' + (h * by + from) % 6)).append(';');
        }
        for (int l = 0; l < 8; l++) {
            s.append("loop ").append(from + l * by).append(' ').append(l + by).append(';');
        }
        s.append("engine 900 5;train");
        for (int i = 0; i < 8; i++) {
            s.append(" k").append((char) ('a' + (i * by + from) % 6));
        }
        return s.append(';').toString();
    }

    /** What the PLAN does, and what is asked of the TRAIN at first. */
    private static String tried(LongTrain x) {
        StringBuilder s = new StringBuilder().append(x.judge(0));
        for (int w = 0; w < 6; w++) {
            s.append(' ').append(x.judged(w));
        }
        for (int a = 0; a < x.count(0); a += 7) {
            s.append(' ').append(x.strain(a, a, 0)).append(' ').append(x.squeeze(a, a, 0)).append(' ').append(x.needed(0, a));
        }
        for (int h = 0; h < x.count(1); h++) {
            s.append(' ').append(x.room(h));
        }
        return s.append(' ').append(x.bet(7)).toString();
    }

    private static void same(Checks c, String what, String got, String want) {
        c.due(what + " (" + got + " / " + want + ")", got.equals(want), true);
    }
}
