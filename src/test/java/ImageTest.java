/** Promises 37 and 38: image, restore. */
public final class ImageTest {
    public static void main(String[] args) {
        Checks c = new Checks();
        LongTrain x = c.on("slope 0 9;slope 1 9;halt h 5 9;loop 3 7;wagon a 1 10 99;wagon b 2 10 50;adds h b;"
                + "engine 300 20;rub 2;sand 3;wear 4;walk 5;train a b a b;");
        c.due("restore(0) of nothing", x.restore(0), false);
        c.due("restore(1) of nothing", x.restore(1), false);
        Checks.plan(x, "help 0 50;go 2;cut 3;");
        x.judge(1);
        Checks.plan(x, "go 1;off;");
        c.due("image(0)", x.image(0), true);
        String was = told(x);
        x.go(8, 0);
        c.due("image(1)", x.image(1), true);
        String then = told(x);
        c.due("they differ", was.equals(then), false);
        x.longest();
        Checks.loads(x, 0, 0);
        x.judge(0);
        String latest = latest(x);
        Checks.line(x, "bad");
        x.feed(0, 0, 0, 0, 0);
        c.due("restore(0)", x.restore(0), true);
        same(c, "as kept in 0", told(x), was);
        same(c, "what other calls told stays", latest(x), latest);
        c.due("fault() stays", x.fault(), 1);
        c.due("the tape stays", x.count(10), 20);
        x.end(0);
        c.due("restore(1)", x.restore(1), true);
        same(c, "as kept in 1", told(x), then);
        Checks.line(x, "");
        x.go(3, 0);
        c.due("restore(1) again", x.restore(1), true);
        same(c, "as kept in 1, again", told(x), then);
        x.go(2, 1);
        Checks.plan(x, "rest;");
        c.due("restore(1) after MOVES", x.restore(1), true);
        same(c, "the image is not changed by what follows", told(x), then);
        x.restore(0);
        c.due("image(1) once more", x.image(1), true);
        Checks.line(x, "");
        x.restore(1);
        same(c, "the latest image counts", told(x), was);
        for (int k : new int[] {-1, 2, Integer.MIN_VALUE, Integer.MAX_VALUE}) {
            c.due("image(" + k + ")", x.image(k), false);
            c.due("restore(" + k + ")", x.restore(k), false);
        }
        same(c, "nothing is changed by that", told(x), was);
        c.close("ImageTest");
    }

    private static void same(Checks c, String what, String got, String want) {
        c.due(what + " (" + got + " / " + want + ")", got.equals(want), true);
    }

    /** All that is told of LINE, TRAIN, HALVES and PLAN. */
    private static String told(LongTrain x) {
        StringBuilder s = new StringBuilder();
        for (int i = 0; i < 10; i++) {
            s.append(x.count(i)).append(' ');
        }
        for (int u = 0; u < x.count(0); u++) {
            s.append(x.grade(u)).append(' ');
        }
        for (int i = 0; i < 3; i++) {
            s.append(x.count(1) > 0 ? x.halt(0, i) : 0).append(' ').append(x.loop(0, i)).append(' ');
            s.append(x.count(3) > 0 ? x.kind(1, i) : 0).append(' ');
        }
        for (int i = 0; i < 8; i++) {
            s.append(x.train(i)).append(' ');
        }
        for (int i = 0; i < x.train(1); i++) {
            for (int w = 0; w < 5; w++) {
                s.append(x.wagon(i, w)).append(' ');
            }
        }
        for (int k = 0; k < x.train(7); k++) {
            for (int w = 0; w < 5; w++) {
                s.append(x.half(k, w)).append(' ');
            }
        }
        return s.append(x.strain(0, 9, 0)).toString();
    }

    private static String latest(LongTrain x) {
        StringBuilder s = new StringBuilder();
        for (int i = 0; i < 6; i++) {
            s.append(x.placed(i)).append(' ').append(x.load(i)).append(' ').append(x.judged(i)).append(' ');
        }
        return s.toString();
    }
}
