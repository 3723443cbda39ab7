/** Promises 9 to 12: train, wagon, half, go: what a MOVE does. */
public final class TrainTest {
    private static final Checks C = new Checks();

    private static void wagon(LongTrain x, int i, int... due) {
        for (int w = 0; w < due.length; w++) {
            C.due("wagon(" + i + ", " + w + ")", x.wagon(i, w), due[w]);
        }
    }

    private static void train(LongTrain x, int... due) {
        for (int w = 0; w < due.length; w++) {
            C.due("train(" + w + ")", x.train(w), due[w]);
        }
    }

    private static void half(LongTrain x, int k, int... due) {
        for (int w = 0; w < due.length; w++) {
            C.due("half(" + k + ", " + w + ")", x.half(k, w), due[w]);
        }
    }

    private static void forces() {
        LongTrain x = C.on("slope 2 1;slope-1 1;slope 5 8;wagon a 2 10 999;wagon b 1 7 999;engine 500 20;rub 3;train a b a;");
        // at UNIT 0: the engine on grade 2, all WAGONS behind the beginning on grade 0
        train(x, 0, 3, 0, 6, 47, 20 * 5 + 27 * 3, 0, 0);
        wagon(x, 0, 0, -1, 81, 0, 30);
        wagon(x, 1, 1, -3, 51, 0, 21);
        wagon(x, 2, 0, -4, 30, 0, 30);
        C.due("go(3, 0)", x.go(3, 0), 3);
        // HEAD 3: a at 2 (grade 5), b at 0 (grade 2), a at -1
        train(x, 3, 3, 1500 - 20 * (2 + 8 + 8) - (10 * 5 + 21 + 30) - (10 * 2 + 21 + 30) - (10 * 8 + 35 + 30), 6, 47,
                160 + 80 + 35 + 30, 0, 0);
        wagon(x, 0, 0, 2, 145, (50 + 51) + (20 + 51) + 145, 80);
        wagon(x, 1, 1, 0, 65, 51 + 51 + 65, 35);
        wagon(x, 2, 0, -1, 30, 90, 30);
        C.due("train(-1)", x.train(-1), -1);
        C.due("train(8)", x.train(8), -1);
        C.throwsNoSuch("wagon(3, 0)", () -> x.wagon(3, 0));
        C.throwsNoSuch("wagon(-1, 0)", () -> x.wagon(-1, 0));
        C.throwsNoSuch("wagon(0, 5)", () -> x.wagon(0, 5));
        C.throwsNoSuch("wagon(0, -1)", () -> x.wagon(0, -1));
        C.throwsNoSuch("half(0, 0)", () -> x.half(0, 0));
    }

    private static void stalls() {
        LongTrain x = C.on("slope 0 4;slope 9 6;engine 20 1;wagon a 1 1 99;train a;sand 7;");
        C.due("LOAD of just PULL does not stall", x.go(10, 0), 9);
        LongTrain y = C.on("slope 0 2;slope 9 20;engine 12 2;wagon a 1 1 99;train a;sand 7;");
        // LOAD 3 at 1, 21 at 2, 30 from 3 on
        C.due("go(1, 0)", y.go(1, 0), 1);
        C.due("RUN-UP", y.train(2), 9);
        C.due("go(1, 0)", y.go(1, 0), 1);
        C.due("RUN-UP is just 0", y.train(2), 0);
        int[] was = {y.train(0), y.train(2), y.wagon(0, 3)};
        C.due("it stalls without sand", y.go(5, 0), 0);
        C.due("and with", y.go(5, 1), 0);
        C.due("HEAD stays", y.train(0), was[0]);
        C.due("RUN-UP stays", y.train(2), was[1]);
        C.due("WEAR stays", y.wagon(0, 3), was[2]);
        LongTrain z = C.on("slope 0 9;engine 5 1;rub 9;sand 4;");
        C.due("9 by 5 and 4 of sand is enough", z.go(400, 1), 8);
        C.due("RUN-UP", z.train(2), 0);
        C.due("the LINE ends", z.go(1, 1), 0);
        C.due("go(0, 0)", z.go(0, 0), 0);
        C.due("go(-1, 0)", z.go(-1, 0), -1);
        C.due("go(401, 0)", z.go(401, 0), -1);
        C.due("go(1, 2)", z.go(1, 2), -1);
        C.due("go(1, -1)", z.go(1, -1), -1);
    }

    private static void partsByStrength() {
        LongTrain x = C.on("slope 0 20;halt h 9 5;wagon s 2 10 900;wagon w 3 10 9;train s w s;");
        C.due("a MOVE in which it parts is one", x.go(1, 0), 1);
        train(x, 1, 1, 60, 3, 20, 20, 0, 1);
        wagon(x, 0, 0, 0, 10, 30, 10);
        half(x, 0, 2, -2, 5, 0, 20);
        C.due("go(9, 0)", x.go(9, 0), 9);
        half(x, 0, 2, -2, 5, 0, 20);
        C.throwsNoSuch("half(1, 0)", () -> x.half(1, 0));
        C.throwsNoSuch("half(-1, 0)", () -> x.half(-1, 0));
        C.throwsNoSuch("half(0, 5)", () -> x.half(0, 5));
        C.throwsNoSuch("half(0, -1)", () -> x.half(0, -1));
        LongTrain y = C.on("slope 0 9;wagon e 1 10 20;train e e;");
        C.due("as much as STRENGTH is borne", y.go(8, 0), 8);
        C.due("no HALF", y.train(7), 0);
    }

    private static void halvesOnGrades() {
        LongTrain x = C.on("slope 1 3;slope 2 3;slope 4 9;halt h 7 1;halt k 8 1;wagon w 3 10 900;wagon s 2 20 900;train w s s;engine 999 1;");
        x.go(8, 0);
        Checks.plan(x, "cut 1;go 1;cut 0;");
        C.due("judge(1)", x.judge(1), -1);
        half(x, 0, 2, 4, 4, 0, 20 * 3 + 20 * 2);
        half(x, 1, 1, 8, 3, -1, 10 * 5);
        train(x, 9, 0, x.train(2), 1, 1, 5, 0, 2);
        // HALVES of many LINES: those of one do not take the room of another's
        for (int i = 0; i < 5; i++) {
            Checks.line(x, "slope 0 9;wagon a 1 1 9;wagon b 2 1 9;train a b a b a b a b;");
            Checks.plan(x, "cut 7;cut 5;cut 0;");
            C.due("judge(1)", x.judge(1), -1);
            half(x, 0, 1, -11, 2, -1, 1);
            half(x, 1, 2, -8, 3, -1, 2);
            half(x, 2, 5, -1, 7, -1, 5);
        }
    }

    private static void partsByWear() {
        LongTrain x = C.on("slope 0 20;wagon a 1 10 100;train a a;wear 1;");
        C.due("go(6, 0)", x.go(6, 0), 6);
        C.due("WEAR of 100 is not too much, 120 is", x.wagon(0, 3), 120);
        C.due("WEAR of the second", x.wagon(1, 3), 60);
        C.due("go(1, 0)", x.go(1, 0), 1);
        C.due("it parts", x.train(1), 0);
        half(x, 0, 2, 6 - 0, 2, -1, 20);
        LongTrain y = C.on("slope 0 3;slope-5 9;wagon a 1 10 999;train a;");
        y.go(11, 0);
        C.due("WEAR is no less by a squeeze", y.wagon(0, 3), 30);
    }

    private static void takesOn() {
        LongTrain x = C.on("slope 0 9;wagon w 1 10 5;wagon v 2 1 50;halt g 0 9;halt h 1 9;halt k 4 9;halt m 6 3;"
                + "adds h v;adds g v;adds m w;train w w;");
        C.due("a HALT at UNIT 0 adds nothing", x.train(1), 2);
        x.go(1, 0);
        C.due("parted, then one came on", x.train(1), 1);
        wagon(x, 0, 1, 0, 1, 0, 1);
        half(x, 0, 2, 0, 2, 1, 20);
        x.go(4, 0);
        C.due("k adds nothing", x.train(1), 1);
        C.due("WEAR from then on", x.wagon(0, 3), 4);
        x.go(1, 0);
        wagon(x, 1, 0, 3, 10, 0, 10);
        C.due("the HALT behind a HALF", x.half(0, 3), 1);
        x.go(1, 0);
        C.due("the new one's coupling parts", x.train(7), 2);
        half(x, 1, 1, 4, 1, 3, 10);
        wagon(x, 0, 1, 6, 1, 4 + 1 + 11, 1);
    }

    public static void main(String[] args) {
        forces();
        stalls();
        partsByStrength();
        halvesOnGrades();
        partsByWear();
        takesOn();
        C.close("TrainTest");
    }
}
