/**
 * Promises 1 to 3, 6 to 12, 16 and 39, and what the document's section 2 says of a TRAIN: every bound
 * that it names, the last that is taken and the first that is refused, sentence by sentence.
 */
public final class TrainBoundsTest {
    private static final Checks C = new Checks();
    private static final int[] FAR = {Integer.MIN_VALUE, -1000, Integer.MAX_VALUE};
    private static final String FULL = "slope 1 99;slope 2 99;slope 3 99;slope 4 99;slope 5 4;";

    // ---- the tape

    private static void tapes() {
        C.sentence("An empty LINE; an empty tape");
        LongTrain x = new LongTrain();
        int[] counts = {0, 0, 0, 0, 100, 1, 10, 10, 2, 0, 0};
        for (int w = 0; w < counts.length; w++) {
            C.due("count(" + w + ")", x.count(w), counts[w]);
        }
        int[] train = {0, 0, 0, 1, 10, 10, 0, 0};
        for (int w = 0; w < train.length; w++) {
            C.due("train(" + w + ")", x.train(w), train[w]);
        }
        C.due("line() of an empty tape", x.line(), 0);
        C.due("plan() of an empty tape", x.plan(), 0);
        C.sentence("Twenty bytes come behind the tape: how many it has; NONE, and none come, if it would have more than 940");
        for (int i = 1; i <= 47; i++) {
            C.due("feed " + i, x.feed(0x20202020, 0x20202020, 0x20202020, 0x20202020, 0x20202020), 20 * i);
        }
        C.due("a 941st byte", x.feed(0, 0, 0, 0, 0), -1);
        C.due("none come", x.count(10), 940);
        C.due("end(921)", x.end(921), true);
        C.due("921 and 20", x.feed(0, 0, 0, 0, 0), -1);
        C.due("none come", x.count(10), 921);
        C.due("end(920)", x.end(920), true);
        C.due("920 and 20", x.feed(0, 0, 0, 0, 0), 940);
        C.sentence("The tape has its first n bytes alone: true; false, if it has not so many, or n is below 0");
        C.due("end(941)", x.end(941), false);
        C.due("end(-1)", x.end(-1), false);
        for (int far : FAR) {
            C.due("end(" + far + ")", x.end(far), false);
        }
        C.due("it stays", x.count(10), 940);
        C.due("end(940)", x.end(940), true);
        C.due("it stays", x.count(10), 940);
        C.due("end(10)", x.end(10), true);
        C.due("end(11)", x.end(11), false);
        C.due("it has 10", x.count(10), 10);
        C.due("end(0)", x.end(0), true);
        C.due("it is empty", x.count(10), 0);
        C.due("end(1)", x.end(1), false);
        C.due("end(0) again", x.end(0), true);
        C.sentence("of each number the highest first");
        x.feed(0x72756220, 0x373b2020, 0x20202020, 0x20202020, 0x2020203f);
        C.due("end(19)", x.end(19), true);
        C.due("line()", x.line(), 1);
        C.due("rub", x.count(5), 7);
        C.sentence("its first n bytes alone: what was behind them is not read");
        Checks.feed(x, "rub 7;sand 10;");
        C.due("end(6)", x.end(6), true);
        C.due("line()", x.line(), 1);
        C.due("sand", x.count(6), 10);
        Checks.feed(x, "rub7");
        C.due("end(3)", x.end(3), true);
        C.due("line() of a WORD that went on", x.line(), -4);
        Checks.feed(x, "rub 77;");
        C.due("end(5)", x.end(5), true);
        C.due("line() of a NUMBER that went on", x.line(), -6);
        Checks.feed(x, "go 1;go 0;");
        C.due("end(5)", x.end(5), true);
        C.due("plan()", x.plan(), 1);
        Checks.line(x, "slope 0 9;halt h 5 9;wagon a 1 1 9;train a;");
        x.feed(0x00ffffff, -1, -1, -1, -1);
        C.due("end(1)", x.end(1), true);
        C.due("loads()", x.loads(), 1);
        C.due("load(0)", x.load(0), 0);
        C.due("load(1)", x.load(1), -1);
        Checks.line(x, "slope 0 9;halt h 5 9;wagon a 1 1 9;train a a a a a a a a;");
        x.feed(0, 0, -1, -1, -1);
        C.due("end(8)", x.end(8), true);
        C.due("loads() of eight", x.loads(), 8);
        C.sentence("bytes that come behind a tape that was cut stand in the others' place");
        Checks.feed(x, "rub 5;rub 5;");
        C.due("end(6)", x.end(6), true);
        C.due("feed", x.feed(0x73616e64, 0x20393b20, 0x20202020, 0x20202020, 0x20202020), 26);
        C.due("line()", x.line(), 2);
        C.due("rub", x.count(5), 5);
        C.due("sand", x.count(6), 9);
        C.sentence("The tape (empty then, here and below)");
        Checks.feed(x, "?");
        C.due("line() with a FAULT", x.line(), -1);
        C.due("the tape", x.count(10), 0);
        Checks.feed(x, "?");
        C.due("plan() with a FAULT", x.plan(), -1);
        C.due("the tape", x.count(10), 0);
        Checks.feed(x, "?");
        C.due("loads() not as told", x.loads(), -1);
        C.due("the tape", x.count(10), 0);
    }

    // ---- what is told of a LINE

    private static void grades() {
        C.sentence("GRADE of a UNIT (0 ahead of the LINE). NoSuchElementException: behind its end, below -999");
        LongTrain x = C.on(FULL);
        int[][] due = {{-999, 0}, {-1, 0}, {0, 1}, {98, 1}, {99, 2}, {395, 4}, {396, 5}, {399, 5}};
        for (int[] d : due) {
            C.due("grade(" + d[0] + ")", x.grade(d[0]), d[1]);
        }
        LongTrain empty = new LongTrain();
        C.due("grade(-1) of an empty LINE", empty.grade(-1), 0);
        C.due("grade(-999) of an empty LINE", empty.grade(-999), 0);
        C.throwsNoSuch("grade(0) of an empty LINE", () -> empty.grade(0));
        C.throwsNoSuch("grade(-1000) of an empty LINE", () -> empty.grade(-1000));
        C.throwsNoSuch("grade(400)", () -> x.grade(400));
        for (int far : FAR) {
            C.throwsNoSuch("grade(" + far + ")", () -> x.grade(far));
        }
        LongTrain one = C.on("slope-7 1;");
        C.due("grade(0) of one UNIT", one.grade(0), -7);
        C.throwsNoSuch("grade(1) of one UNIT", () -> one.grade(1));
    }

    private static String many() {
        StringBuilder text = new StringBuilder("slope 0 99;");
        for (int i = 0; i < 10; i++) {
            text.append("halt h").append((char) ('a' + i)).append(' ').append(i + 1).append(' ').append(i + 21).append(';');
            text.append(i < 8 ? "loop " + (i + 30) + " " + (i + 40) + ";" : "");
            text.append(i < 6 ? "wagon w" + (char) ('a' + i) + " " + (i + 1) + " " + (i + 2) + " " + (i + 990) + ";" : "");
        }
        for (int i = 0; i < 10; i++) {
            text.append("adds h").append((char) ('a' + i)).append(" w").append((char) ('a' + i % 6)).append(';');
        }
        return text.append("engine 999 1;train wa wb wc wd we wf wa wb;").toString();
    }

    private static void tellers() {
        LongTrain x = C.on(many());
        C.sentence("Of HALT h: 0 AT, 1 LONG, 2 the KIND that it adds. NoSuchElementException: no such ones");
        for (int h : new int[] {0, 9}) {
            C.due("AT of HALT " + h, x.halt(h, 0), h + 1);
            C.due("LONG of HALT " + h, x.halt(h, 1), h + 21);
            C.due("KIND of HALT " + h, x.halt(h, 2), h % 6);
        }
        C.sentence("Of a KIND: 0 LONG, 1 WEIGHT, 2 STRENGTH. NoSuchElementException: no such ones");
        for (int k : new int[] {0, 5}) {
            C.due("LONG of KIND " + k, x.kind(k, 0), k + 1);
            C.due("WEIGHT of KIND " + k, x.kind(k, 1), k + 2);
            C.due("STRENGTH of KIND " + k, x.kind(k, 2), k + 990);
        }
        C.sentence("Of loop k: 0 AT, 1 LONG. NONE: no such ones");
        for (int k : new int[] {0, 7}) {
            C.due("AT of loop " + k, x.loop(k, 0), k + 30);
            C.due("LONG of loop " + k, x.loop(k, 1), k + 40);
        }
        noSuch(x, 10, 6, 8);
        noSuch(C.on("slope 0 9;halt h 1 1;loop 1 1;wagon a 1 1 1;"), 1, 1, 1);
        noSuch(new LongTrain(), 0, 0, 0);
        C.sentence("2 the KIND that it adds (NONE: none)");
        C.due("none", C.on("slope 0 9;halt h 1 1;wagon a 1 1 1;").halt(0, 2), -1);
        C.sentence("count: NONE for another what");
        C.due("count(-1)", x.count(-1), -1);
        C.due("count(11)", x.count(11), -1);
        int[] counts = {99, 10, 8, 6, 999, 1, 10, 10, 2, 0, 0};
        for (int w = 0; w < counts.length; w++) {
            C.due("count(" + w + ")", x.count(w), counts[w]);
        }
        for (int far : FAR) {
            C.due("count(" + far + ")", x.count(far), -1);
        }
    }

    private static void noSuch(LongTrain x, int halts, int kinds, int loops) {
        for (int what = 0; what < 3; what++) {
            int w = what;
            for (int far : new int[] {-1, 0, Integer.MIN_VALUE, Integer.MAX_VALUE}) {
                C.throwsNoSuch("halt " + far, () -> x.halt(far == 0 ? halts : far, w));
                C.throwsNoSuch("kind " + far, () -> x.kind(far == 0 ? kinds : far, w));
                C.due("loop " + far, x.loop(far == 0 ? loops : far, w), -1);
            }
        }
        for (int far : new int[] {-1, 3, Integer.MIN_VALUE, Integer.MAX_VALUE}) {
            C.throwsNoSuch("halt(0, " + far + ")", () -> x.halt(0, far));
            C.throwsNoSuch("kind(0, " + far + ")", () -> x.kind(0, far));
            C.due("loop(0, " + far + ")", x.loop(0, far), -1);
        }
        C.due("loop(0, 2)", x.loop(0, 2), -1);
    }

    private static void trainTellers() {
        C.sentence("train: NONE: another what");
        LongTrain x = C.on(many());
        for (int w : new int[] {-1, 8, Integer.MIN_VALUE, Integer.MAX_VALUE}) {
            C.due("train(" + w + ")", x.train(w), -1);
        }
        C.due("train(7)", x.train(7), 0);
        C.due("WEIGHT of all", x.train(4), 1 + 2 + 3 + 4 + 5 + 6 + 7 + 2 + 3);
        C.sentence("Of WAGON i now: NoSuchElementException: no such ones");
        C.due("the eighth at first", x.wagon(7, 0), 1);
        C.throwsNoSuch("no ninth", () -> x.wagon(8, 0));
        x.go(10, 0);
        C.due("18 WAGONS", x.train(1), 18);
        C.due("the 18th", x.wagon(17, 0), 3);
        C.due("DRAG of it", x.wagon(17, 4), 5);
        for (int i : new int[] {-1, 18, 19, 20, Integer.MIN_VALUE, Integer.MAX_VALUE}) {
            C.throwsNoSuch("wagon(" + i + ", 0)", () -> x.wagon(i, 0));
        }
        for (int w : new int[] {-1, 5, Integer.MIN_VALUE, Integer.MAX_VALUE}) {
            C.throwsNoSuch("wagon(0, " + w + ")", () -> x.wagon(0, w));
        }
        C.throwsNoSuch("no WAGON at all", () -> new LongTrain().wagon(0, 0));
        C.sentence("Of HALF k (0: the first that parted): NoSuchElementException: no such ones");
        C.throwsNoSuch("half(0, 0) without any", () -> x.half(0, 0));
        Checks.plan(x, "cut 17;cut 16;cut 15;cut 14;cut 13;cut 12;cut 11;cut 10;cut 9;cut 8;cut 7;cut 6;cut 5;cut 4;cut 3;cut 2;"
                + "cut 1;cut 0;cut 0;");
        C.due("18 times cut, then no such WAGON", x.judge(1), 18);
        C.due("18 HALVES", x.train(7), 18);
        C.due("the first one", x.half(0, 2), 4);
        C.due("the last one", x.half(17, 2), 1);
        C.due("its foremost UNIT", x.half(17, 1), 9);
        for (int k : new int[] {-1, 18, 19, 20, Integer.MIN_VALUE, Integer.MAX_VALUE}) {
            C.throwsNoSuch("half(" + k + ", 0)", () -> x.half(k, 0));
        }
        for (int w : new int[] {-1, 5, Integer.MIN_VALUE, Integer.MAX_VALUE}) {
            C.throwsNoSuch("half(0, " + w + ")", () -> x.half(0, w));
        }
        C.due("half(0, 4)", x.half(0, 4), 5);
    }

    // ---- section 2

    private static void places() {
        C.sentence("the engine, one UNIT long, at its HEAD's UNIT, and WAGONS behind it");
        LongTrain x = C.on("slope 9 20;wagon a 3 10 999;wagon b 1 10 999;engine 999 1;train a b a;");
        int[] units = {-1, -4, -5};
        for (int i = 0; i < 3; i++) {
            C.due("WAGON " + i + " at first", x.wagon(i, 1), units[i]);
        }
        C.due("UNITS from HEAD to its end", x.train(3), 8);
        C.due("UNITS of the engine alone", C.on("slope 0 9;").train(3), 1);
        C.sentence("GRADE ahead of UNIT 0 (behind its beginning) is 0");
        C.due("DRAG at UNIT -1", x.wagon(0, 4), 10);
        C.due("the engine's at UNIT 0, and the WAGONS'", x.train(5), 10 + 30);
        x.go(1, 0);
        C.due("DRAG at UNIT 0", x.wagon(0, 4), 100);
        C.due("DRAG at UNIT -3", x.wagon(1, 4), 10);
        x.go(2, 0);
        C.due("DRAG at UNIT -1", x.wagon(1, 4), 10);
        x.go(1, 0);
        C.due("DRAG at UNIT 0", x.wagon(1, 4), 100);
        C.due("DRAG at UNIT -1", x.wagon(2, 4), 10);
        C.sentence("WEIGHT times (GRADE of its foremost UNIT, and rub); likewise of the engine");
        LongTrain y = C.on("slope 0 4;slope 5 1;slope 0 9;wagon a 3 10 999;rub 2;train a;");
        int[] drags = {20, 20, 20, 20, 20, 70, 20, 20, 20};
        int[] loads = {40, 40, 40, 40, 90, 90, 40, 40, 40};
        for (int head = 0; head < drags.length; head++) {
            C.due("DRAG with HEAD at " + head, y.wagon(0, 4), drags[head]);
            C.due("LOAD with HEAD at " + head, y.train(5), loads[head]);
            y.go(1, 0);
        }
        C.sentence("BEARS the DRAG of it and of all behind it, less P of each HELPER at a WAGON i or behind it");
        LongTrain z = C.on("slope 0 9;wagon a 1 10 999;train a a a;");
        Checks.plan(z, "help 1 3;");
        z.judge(1);
        int[] bears = {27, 17, 10};
        for (int i = 0; i < 3; i++) {
            C.due("COUPLING " + i, z.wagon(i, 2), bears[i]);
        }
        C.due("LOAD", z.train(5), 37);
    }

    private static void ends() {
        C.sentence("A MOVE (HEAD to the next UNIT; there must be one)");
        C.due("no UNIT at all", new LongTrain().go(1, 0), 0);
        C.due("one UNIT", C.on("slope 0 1;").go(1, 0), 0);
        C.due("two UNITS", C.on("slope 0 2;").go(2, 0), 1);
        C.sentence("So many MOVES (0 to 400): how many were done (fewer: the LINE ends); NONE: not as told");
        LongTrain x = C.on(FULL + "engine 999 1;");
        C.due("go(0, 0)", x.go(0, 0), 0);
        C.due("go(0, 1)", x.go(0, 1), 0);
        int[][] wrong = {{-1, 0}, {401, 0}, {1, -1}, {1, 2}, {0, 2}, {-1, 1}, {401, 1}, {Integer.MIN_VALUE, 0},
            {Integer.MAX_VALUE, 0}, {1, Integer.MIN_VALUE}, {1, Integer.MAX_VALUE}};
        for (int[] w : wrong) {
            C.due("go(" + w[0] + ", " + w[1] + ")", x.go(w[0], w[1]), -1);
            C.due("HEAD stays", x.train(0), 0);
            C.due("RUN-UP stays", x.train(2), 0);
        }
        x.image(0);
        C.due("go(399, 0)", x.go(399, 0), 399);
        C.due("HEAD", x.train(0), 399);
        C.due("no MOVE more", x.go(1, 0), 0);
        C.due("no MOVE more", x.go(400, 1), 0);
        C.due("go(0, 0) at the end", x.go(0, 0), 0);
        C.due("HEAD", x.train(0), 399);
        x.restore(0);
        C.due("go(400, 1)", x.go(400, 1), 399);
        x.restore(0);
        C.due("go(398, 0)", x.go(398, 0), 398);
        C.due("one MOVE more", x.go(2, 0), 1);
    }

    private static void stalls() {
        C.sentence("RUN-UP is 0 at first; and PULL, less LOAD: below 0: it STALLS");
        LongTrain just = C.on("slope 0 9;engine 10 10;");
        C.due("just 0", just.go(8, 0), 8);
        C.due("RUN-UP", just.train(2), 0);
        C.due("1 below 0", C.on("slope 0 9;engine 9 10;").go(8, 0), 0);
        LongTrain one = C.on("slope 0 9;engine 11 10;");
        C.due("go(8, 0)", one.go(8, 0), 8);
        C.due("1 more each MOVE", one.train(2), 8);
        LongTrain up = C.on("slope 0 2;slope 1 9;engine 15 10;");
        C.due("5, then just 0 by the new place, then below", up.go(9, 0), 2);
        C.due("RUN-UP", up.train(2), 0);
        C.sentence("and with a UNIT of sand as 'sand' tells");
        C.due("sand for just 0", C.on("slope 0 9;engine 7 10;sand 3;").go(8, 1), 8);
        C.due("sand for 1 below 0", C.on("slope 0 9;engine 6 10;sand 3;").go(8, 1), 0);
        C.due("without it", C.on("slope 0 9;engine 7 10;sand 3;").go(8, 0), 0);
        C.due("sand of 0", C.on("slope 0 9;engine 9 10;sand 0;").go(8, 1), 0);
        C.due("10 without a ROW of it", C.on("slope 0 9;engine 1 11;").go(8, 1), 8);
        C.due("10 without a ROW of it", C.on("slope 0 9;engine 1 12;").go(8, 1), 0);
        C.sentence("it STALLS (nothing is done)");
        LongTrain x = C.on("slope 0 3;slope 9 9;halt h 3 9;wagon a 1 1 99;wagon b 1 90 90;adds h a;engine 92 1;train a b;sand 1;");
        // LOAD 92 at 1 and 2; at 3 the engine's is 10, so 101: below 0 by 9, and by 8 with sand
        C.due("go(2, 0)", x.go(2, 0), 2);
        String was = Checks.told(x);
        C.due("it stalls", x.go(5, 0), 0);
        C.due("and with sand", x.go(5, 1), 0);
        C.due("all is as it was", Checks.told(x).equals(was), true);
        LongTrain y = C.on("slope 0 3;slope 9 9;halt h 3 9;wagon a 1 1 99;wagon b 1 90 90;adds h a;engine 92 1;train a b;sand 9;");
        y.go(2, 0);
        C.due("just enough sand", y.go(1, 1), 1);
        C.due("what it takes on", y.train(1), 3);
        C.sentence("below 0: it STALLS. Else a COUPLING that BEARS more");
        LongTrain z = C.on("slope 0 9;wagon a 1 90 89;engine 90 1;train a;");
        C.due("it would part, but it stalls", z.go(1, 0), 0);
        C.due("no HALF", z.train(7), 0);
        LongTrain v = C.on("slope 0 9;wagon a 1 90 89;engine 91 1;train a;");
        C.due("it does not stall", v.go(1, 0), 1);
        C.due("a HALF", v.train(7), 1);
        C.due("RUN-UP less all that was borne", v.train(2), 0);
    }

    private static void parts() {
        C.sentence("a COUPLING that BEARS more than the STRENGTH of its WAGON");
        LongTrain x = C.on("slope 0 9;wagon a 1 10 10;wear 99;train a;");
        C.due("as much", x.go(8, 0), 8);
        C.due("no HALF", x.train(7), 0);
        LongTrain y = C.on("slope 0 9;wagon a 1 10 9;wear 99;train a;");
        C.due("1 more", y.go(1, 0), 1);
        C.due("a HALF", y.train(7), 1);
        C.due("no WAGONS", y.train(1), 0);
        C.sentence("by what is so at the new place");
        LongTrain w = C.on("slope 0 3;slope 1 9;wagon a 1 10 19;wear 99;train a;engine 999 1;");
        C.due("it is at UNIT 2", w.go(3, 0), 3);
        C.due("one WAGON", w.train(1), 1);
        C.due("it would be at UNIT 3", w.go(1, 0), 1);
        C.due("it parts", w.train(7), 1);
        C.due("there", w.half(0, 1), 3);
        C.sentence("or the WEAR of which is more than 'wear' times that");
        for (int wear : new int[] {1, 3, 99}) {
            LongTrain z = C.on("slope 0 99;slope 0 99;wagon a 1 10 10;train a;wear " + wear + ";");
            C.due("WEAR is just that", z.go(wear, 0), wear);
            C.due("WEAR", z.wagon(0, 3), 10 * wear);
            C.due("go(1, 0)", z.go(1, 0), 1);
            C.due("it holds, and has more now", z.wagon(0, 3), 10 * wear + 10);
            C.due("go(1, 0)", z.go(1, 0), 1);
            C.due("it parts", z.train(7), 1);
        }
        LongTrain more = C.on("slope 0 4;slope-1 1;slope 0 9;wagon a 1 1 4;train a;wear 1;");
        C.due("WEAR 4 with HEAD at 4, none more at 5", more.go(5, 0), 5);
        C.due("WEAR", more.wagon(0, 3), 4);
        C.due("5 with HEAD at 6", more.go(1, 0), 1);
        C.due("WEAR", more.wagon(0, 3), 5);
        C.due("go(1, 0)", more.go(1, 0), 1);
        C.due("1 more than that: it parts", more.train(7), 1);
    }

    private static void halves() {
        C.sentence("it PARTS there (the foremost such one): that WAGON and all behind it");
        LongTrain x = C.on("slope 0 20;wagon s 1 10 999;wagon w 2 10 19;train s s w w;");
        // the last bears 10 of 19 and would hold; the third bears 20
        C.due("go(1, 0)", x.go(1, 0), 1);
        C.due("WAGONS", x.train(1), 2);
        C.due("WAGONS of the HALF", x.half(0, 0), 2);
        C.due("its UNITS", x.half(0, 2), 4);
        LongTrain y = C.on("slope 0 20;wagon w 1 10 9;train w w w;");
        y.go(1, 0);
        C.due("all could part, the foremost does", y.half(0, 0), 3);
        C.due("no WAGONS", y.train(1), 0);
        C.sentence("stand from then on where they are");
        C.due("the foremost UNIT", x.half(0, 1), -2);
        x.go(9, 0);
        C.due("the foremost UNIT then", x.half(0, 1), -2);
        C.sentence("3 the HALT next ahead of that UNIT (its AT above it; NONE: none)");
        int[] next = {0, 1, 1, 1, 1, 2, -1, -1};
        for (int head = 0; head < next.length; head++) {
            LongTrain z = C.on("slope 0 20;halt g 0 1;halt h 4 1;halt k 5 1;wagon a 1 1 99;train a;");
            z.go(head, 0);
            Checks.plan(z, "cut 0;");
            z.judge(1);
            C.due("the foremost UNIT", z.half(0, 1), head - 1);
            C.due("the HALT above UNIT " + (head - 1), z.half(0, 3), next[head]);
        }
    }

    private static void wears() {
        C.sentence("WEAR of each COUPLING (ahead of that): more by what it BEARS, if that is above 0");
        for (int push = 9; push <= 11; push++) {
            LongTrain x = C.on("slope 0 9;wagon a 1 10 99;train a;");
            Checks.plan(x, "help 0 " + push + ";go 1;");
            x.judge(1);
            C.due("it bears", x.wagon(0, 2), 10 - push);
            C.due("WEAR", x.wagon(0, 3), push == 9 ? 1 : 0);
        }
        LongTrain y = C.on("slope 0 9;wagon s 1 10 999;wagon w 1 10 9;train s w;");
        y.go(1, 0);
        C.due("ahead of where it parts", y.wagon(0, 3), 20);
        y.go(1, 0);
        C.due("then by what is left", y.wagon(0, 3), 30);
        C.sentence("WEAR is 0 at first");
        C.due("WEAR at first", C.on("slope 0 9;wagon a 1 1 9;train a;").wagon(0, 3), 0);
    }

    private static void comers() {
        C.sentence("if HEAD is a HALT's AT, 'adds' of it: one of that KIND comes on at the end (with WEAR 0), each HALT once");
        LongTrain x = C.on("slope 0 9;halt g 0 1;halt h 3 1;halt k 4 1;halt m 8 1;wagon a 1 1 99;wagon b 1 2 99;adds g a;adds h a;"
                + "adds m b;");
        int[] wagons = {0, 0, 0, 1, 1, 1, 1, 1, 2};
        int[] wear = {0, 0, 0, 0, 1, 2, 3, 4, 5};
        for (int head = 0; head < 9; head++) {
            C.due("WAGONS with HEAD at " + head, x.train(1), wagons[head]);
            C.due("WEAR with HEAD at " + head, wagons[head] > 0 ? x.wagon(0, 3) : 0, wear[head]);
            x.go(1, 0);
        }
        C.due("at the last UNIT", x.wagon(1, 0), 1);
        C.due("at the end", x.wagon(1, 1), 6);
        C.due("no MOVE is left", x.go(1, 0), 0);
        C.due("each once", x.train(1), 2);
        C.sentence("and there are not 20 WAGONS");
        LongTrain y = C.on(many());
        for (int head = 0; head <= 11; head++) {
            C.due("as many as can be told, with HEAD at " + head, y.train(1), 8 + Math.min(head, 10));
            y.go(1, 0);
        }
    }

    // ---- what changes nothing

    private static void nothing() {
        C.sentence("A call that throws changes nothing");
        LongTrain x = C.on("slope 1 20;halt h 2 9;halt k 15 9;loop 1 1;wagon a 1 10 30;wagon b 1 10 999;adds h a;adds k b;train b a;"
                + "engine 300 1;");
        x.go(5, 0);
        Checks.plan(x, "go 1;help 0 5;");
        x.judge(1);
        x.longest();
        Checks.loads(x, 0, 0);
        Checks.plan(x, "go 0;");
        x.feed(1, 2, 3, 4, 5);
        String was = Checks.told(x) + Checks.latest(x);
        int[] no = {-1, 99, Integer.MAX_VALUE};
        for (int n : no) {
            C.throwsNoSuch("grade", () -> x.grade(n == -1 ? -1000 : n));
            C.throwsNoSuch("halt", () -> x.halt(n, 0));
            C.throwsNoSuch("kind", () -> x.kind(0, n));
            C.throwsNoSuch("wagon", () -> x.wagon(n, 0));
            C.throwsNoSuch("half", () -> x.half(n, 0));
            C.throwsNoSuch("strain", () -> x.strain(0, 1, n));
            C.throwsNoSuch("squeeze", () -> x.squeeze(0, 1, n));
        }
        C.due("all is as it was", (Checks.told(x) + Checks.latest(x)).equals(was), true);
        C.due("fault()", x.fault(), 2);
        C.due("the tape", x.count(10), 20);
        C.sentence("a call that is not as told changes nothing");
        for (int n : no) {
            x.go(1, n);
            x.go(n == 99 ? 401 : n, 0);
            x.judge(n);
            x.image(n);
            x.restore(n);
            x.lives(n);
            x.placed(n);
            x.load(n);
            x.end(n == -1 ? -1 : 21);
        }
        C.due("all is as it was", (Checks.told(x) + Checks.latest(x)).equals(was), true);
        C.due("fault()", x.fault(), 2);
        C.due("the tape", x.count(10), 20);
    }

    public static void main(String[] args) {
        tapes();
        grades();
        tellers();
        trainTellers();
        places();
        ends();
        stalls();
        parts();
        halves();
        wears();
        comers();
        nothing();
        C.close("TrainBoundsTest");
    }
}
