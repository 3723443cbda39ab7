/** Promises 13 to 15 and 17 to 20: strain, squeeze, span, climb, needed, sanded, helped. */
public final class FreeTest {
    private static final Checks C = new Checks();
    /** Two WAGONS of 2 UNITS and WEIGHT 10; a third of 1 UNIT and WEIGHT 20 comes on at 8. */
    private static final String LINE = "slope 0 10;slope 5 5;slope-3 5;slope 0 10;halt h 8 4;halt k 22 20;"
            + "wagon a 2 10 100;wagon b 1 20 300;adds h b;engine 100 10;rub 1;sand 50;train a a;";

    private static void strain() {
        LongTrain x = C.on(LINE);
        int[][] due = {{240, 15, 0}, {-80, 20, 0}};
        for (int w = 0; w < 3; w++) {
            C.due("strain(0, 29, " + w + ")", x.strain(0, 29, w), due[0][w]);
            C.due("squeeze(0, 29, " + w + ")", x.squeeze(0, 29, w), due[1][w]);
        }
        C.due("at 8 the third is not there", x.strain(8, 8, 0), 20);
        C.due("at 9 it is", x.strain(9, 9, 0), 40);
        C.due("squeeze is by the last there", x.squeeze(8, 8, 2), 1);
        C.due("of like ones the first HEAD", x.strain(0, 8, 1), 0);
        C.due("of like ones the first HEAD", x.squeeze(2, 7, 1), 2);
        x.go(29, 0);
        C.due("not by the TRAIN now", x.strain(0, 29, 0), 240);
        int[][] wrong = {{-1, 0}, {0, 30}, {5, 4}, {30, 30}, {Integer.MIN_VALUE, 0}, {0, Integer.MAX_VALUE}};
        for (int[] w : wrong) {
            C.due("strain(" + w[0] + ", " + w[1] + ", 0)", x.strain(w[0], w[1], 0), -1);
            C.due("squeeze(" + w[0] + ", " + w[1] + ", 0)", x.squeeze(w[0], w[1], 0), -1);
            C.throwsNoSuch("strain(.., .., 3)", () -> x.strain(w[0], w[1], 3));
            C.throwsNoSuch("squeeze(.., .., -1)", () -> x.squeeze(w[0], w[1], -1));
        }
        C.throwsNoSuch("strain(0, 1, 3)", () -> x.strain(0, 1, 3));
        LongTrain y = C.on("slope 0 9;halt h 3 9;wagon a 1 2 3;adds h a;rub 0;");
        C.due("no WAGONS yet at 3", y.strain(0, 3, 0), -1);
        C.due("at 4 there is one, it bears 0", y.strain(0, 4, 0), 0);
        C.due("at 4", y.strain(0, 8, 1), 4);
        C.due("of like ones the least COUPLING", C.on("slope 0 9;wagon a 1 2 3;rub 0;train a a;").strain(0, 8, 2), 0);
        C.due("of like ones the least COUPLING", C.on("slope 0 9;wagon a 1 2 3;rub 0;train a a;").squeeze(0, 8, 2), 0);
    }

    private static void span() {
        LongTrain x = C.on(LINE);
        C.due("span(14, 10, 0)", x.span(14, 10, 0), 2);
        C.due("span(14, 10, 1)", x.span(14, 10, 1), 14);
        C.due("span(10, 14, 0)", x.span(10, 14, 0), 2);
        C.due("at 8 with what came on: 3 to 8", x.span(3, 8, 0), 1);
        C.due("at 7 only 3 to 7", x.span(2, 7, 0), 0);
        C.due("one UNIT", x.span(0, 0, 0), 5);
        C.due("one UNIT", x.span(29, 29, 1), 29);
        C.due("too far, 0", x.span(0, 29, 0), 0);
        C.due("too far, 1", x.span(0, 29, 1), -1);
        C.due("span(30, 0, 0)", x.span(30, 0, 0), -1);
        C.due("span(0, 30, 0)", x.span(0, 30, 0), -1);
        C.due("span(-1, 0, 0)", x.span(-1, 0, 0), -1);
        C.due("span(0, -1, 1)", x.span(0, -1, 1), -1);
        C.due("span(0, 0, 2)", x.span(0, 0, 2), -1);
        C.due("span(0, 0, -1)", x.span(0, 0, -1), -1);
    }

    private static void climb() {
        LongTrain x = C.on(LINE);
        C.due("climb(0, 29, 0)", x.climb(0, 29, 0), 29);
        C.due("climb(8, 29, 0)", x.climb(8, 29, 0), 11);
        C.due("climb(8, 10, 0)", x.climb(8, 10, 0), 10);
        C.due("it stalls at b", x.climb(8, 12, 0), 11);
        C.due("what comes on at 8 is on the way, 379", x.climb(7, 29, 379), 16);
        C.due("what comes on at 8 is on the way, 380", x.climb(7, 29, 380), 29);
        C.due("needed(7, 29)", x.needed(7, 29), 380);
        C.due("climb(8, 29, 449)", x.climb(8, 29, 449), 16);
        C.due("climb(8, 29, 450)", x.climb(8, 29, 450), 29);
        C.due("climb(8, 29, 99999)", x.climb(8, 29, 99999), 29);
        C.due("climb(8, 8, 0)", x.climb(8, 8, 0), 8);
        C.due("needed(0, 29)", x.needed(0, 29), 0);
        C.due("needed(8, 29)", x.needed(8, 29), 450);
        C.due("needed(8, 16)", x.needed(8, 16), 410);
        C.due("needed(29, 29)", x.needed(29, 29), 0);
        LongTrain y = C.on("slope 9 99;slope 9 99;slope 9 99;slope 9 99;engine 1 99;rub 9;wagon a 1 99 1;"
                + "train a a a a a a a a;");
        // LOAD of 1782 for the engine; of each WAGON 891 behind the beginning and 1782 on the LINE
        int need = 0;
        for (int head = 1; head <= 395; head++) {
            need += 1782 - 1 + 8 * 891 + 891 * Math.min(8, head);
        }
        C.due("more than a RUN-UP may be told", y.needed(0, 395), need);
        C.due("so it does not come there", y.climb(0, 395, 99999), 7);
    }

    private static void sanded() {
        LongTrain x = C.on(LINE);
        C.due("sanded(8, 29, 0)", x.sanded(8, 29, 0), -1);
        C.due("sanded(8, 14, 0)", x.sanded(8, 14, 0), 5);
        C.due("sanded(8, 29, 100)", x.sanded(8, 29, 100), 7);
        C.due("sanded(8, 29, 99)", x.sanded(8, 29, 99), 8);
        C.due("sanded(8, 29, 450)", x.sanded(8, 29, 450), 0);
        C.due("sanded(8, 29, 449)", x.sanded(8, 29, 449), 1);
        C.due("sanded(29, 29, 0)", x.sanded(29, 29, 0), 0);
        C.due("sanded(7, 29, 380)", x.sanded(7, 29, 380), 0);
        C.due("sanded(7, 29, 379)", x.sanded(7, 29, 379), 1);
        LongTrain w = C.on("slope 0 9;engine 8 1;rub 9;sand 1;");
        C.due("sand of 1", w.sanded(0, 8, 3), 5);
        LongTrain y = C.on("slope 0 9;engine 4 1;rub 9;sand 5;");
        C.due("one for each MOVE", y.sanded(0, 8, 0), 8);
        C.due("one for each MOVE but one", y.sanded(0, 8, 5), 7);
        LongTrain z = C.on("slope 0 9;engine 4 1;rub 9;sand 0;");
        C.due("sand of 0", z.sanded(0, 8, 0), -1);
        C.due("sand of 0 that is not needed", z.sanded(0, 8, 40), 0);
    }

    private static void helped() {
        LongTrain x = C.on(LINE);
        C.due("helped(8, 29, 0, 100)", x.helped(8, 29, 0, 100), 0);
        C.due("helped(8, 29, 0, 200)", x.helped(8, 29, 0, 200), 6);
        C.due("of those at 7", x.helped(7, 29, 0, 200), 2);
        C.due("helped(7, 7, 0, 1)", x.helped(7, 7, 0, 1), 3);
        C.due("helped(8, 8, 0, 1)", x.helped(8, 8, 0, 1), 7);
        C.due("helped(8, 8, 0, 999)", x.helped(8, 8, 0, 999), 7);
        LongTrain y = C.on("slope 9 9;engine 50 1;wagon a 1 10 60;train a a;");
        // on the LINE 100 each: LOAD 210; the first bears 200, the second 100
        C.due("neither", y.helped(0, 8, 99999, 139), 0);
        C.due("the second, if both bear no more than 60", y.helped(0, 8, 99999, 140), 2);
        C.due("it stalls at RUN-UP 19", y.helped(4, 8, 19, 140), 0);
        C.due("the RUN-UP of 20 by MOVE", y.helped(4, 6, 40, 140), 2);
        C.due("is needed", y.helped(4, 6, 39, 140), 0);
        C.due("no WAGONS", C.on("slope 0 9;").helped(0, 8, 0, 1), 0);
        C.due("helped(0, 8, 0, 0)", y.helped(0, 8, 0, 0), -1);
        C.due("helped(0, 8, 0, 1000)", y.helped(0, 8, 0, 1000), -1);
    }

    private static void wrong() {
        LongTrain x = C.on(LINE);
        int[][] wrong = {{-1, 0, 0}, {0, 30, 0}, {5, 4, 0}, {0, 5, -1}, {0, 5, 100000}, {30, 30, 0},
            {Integer.MIN_VALUE, Integer.MAX_VALUE, 0}};
        for (int[] w : wrong) {
            String told = "(" + w[0] + ", " + w[1] + ", " + w[2] + ")";
            C.due("climb" + told, x.climb(w[0], w[1], w[2]), -1);
            C.due("sanded" + told, x.sanded(w[0], w[1], w[2]), -1);
            C.due("helped" + told, x.helped(w[0], w[1], w[2], 5), -1);
            if (w[2] == 0) {
                C.due("needed" + told, x.needed(w[0], w[1]), -1);
            }
        }
    }

    public static void main(String[] args) {
        strain();
        span();
        climb();
        sanded();
        helped();
        wrong();
        C.close("FreeTest");
    }
}
