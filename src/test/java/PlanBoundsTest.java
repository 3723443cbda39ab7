/**
 * Promises 33 to 38, and what the document's section 4 says of PLANS and BETS: every bound that it
 * names, the last that is taken and the first that is refused, sentence by sentence. (The text of a
 * PLAN is TextBoundsTest's.)
 */
public final class PlanBoundsTest {
    private static final Checks C = new Checks();
    private static final int LOW = Integer.MIN_VALUE;
    private static final int HIGH = Integer.MAX_VALUE;
    private static final String LINE = "slope 0 20;wagon a 1 10 999;train a a a;engine 100 10;";
    private static final String LONG = "slope 0 99;slope 0 99;slope 0 99;slope 0 99;slope 0 4;";

    private static LongTrain on(String line, String plan) {
        LongTrain x = C.on(line);
        int rows = Checks.plan(x, plan);
        if (rows < 0) {
            C.due("plan '" + plan + "' (fault " + x.fault() + ")", rows, 0);
        }
        return x;
    }

    /** judge() both ways: the ROW that is WRONG; why, MOVES, UNITS of sand, HEAD, WAGONS, HALVES. */
    private static void judged(String line, String plan, int row, int... due) {
        LongTrain x = on(line, plan);
        String was = Checks.told(x);
        C.due("judge(0) of '" + plan + "'", x.judge(0), row);
        told(x, plan, due);
        C.due("the TRAIN stays by '" + plan + "'", Checks.told(x).equals(was), true);
        C.due("judge(1) of '" + plan + "'", x.judge(1), row);
        told(x, plan, due);
        int[] train = {x.train(0), x.train(1), x.train(7)};
        for (int i = 0; i < 3; i++) {
            C.due("the TRAIN now by '" + plan + "'", train[i], due[3 + i]);
        }
    }

    private static void told(LongTrain x, String plan, int... due) {
        for (int w = 0; w < 6; w++) {
            C.due("judged(" + w + ") of '" + plan + "'", x.judged(w), due[w]);
        }
    }

    private static void moves() {
        C.sentence("go: so many MOVES, sand: likewise, each with a UNIT of sand");
        judged(LINE, "go 1;", -1, 0, 1, 0, 1, 3, 0);
        judged(LINE, "sand 1;", -1, 0, 1, 1, 1, 3, 0);
        judged(LONG, "go 399;", -1, 0, 399, 0, 399, 0, 0);
        judged(LONG, "sand 399;", -1, 0, 399, 399, 399, 0, 0);
        C.sentence("WRONG: 2 the LINE ends");
        judged(LONG, "go 400;", 0, 2, 399, 0, 399, 0, 0);
        judged(LONG, "sand 400;", 0, 2, 399, 399, 399, 0, 0);
        judged(LONG, "go 399;sand 1;", 1, 2, 399, 0, 399, 0, 0);
        judged("", "go 1;", 0, 2, 0, 0, 0, 0, 0);
        judged("slope 0 1;", "sand 1;", 0, 2, 0, 0, 0, 0, 0);
        judged("slope 0 2;", "go 1;", -1, 0, 1, 0, 1, 0, 0);
        C.sentence("WRONG: 1 it STALLS (A 'go', 'sand' that is WRONG has done its MOVES ahead of that.)");
        String hill = "slope 0 3;slope 1 9;engine 12 10;sand 4;";
        // RUN-UP 2, 4, below 0 by 4: with a UNIT of sand in that MOVE just 0, then 4 below 0 with sand
        judged(hill, "go 2;", -1, 0, 2, 0, 2, 0, 0);
        judged(hill, "go 3;", 0, 1, 2, 0, 2, 0, 0);
        judged(hill, "go 2;sand 1;", -1, 0, 3, 1, 3, 0, 0);
        judged(hill, "go 2;sand 2;", 1, 1, 3, 1, 3, 0, 0);
        judged(hill, "go 2;sand 9;rest;", 1, 1, 3, 1, 3, 0, 0);
        judged("slope 0 3;slope 1 9;engine 12 10;sand 3;", "go 2;sand 1;", 1, 1, 2, 0, 2, 0, 0);
        judged("slope 0 4;engine 1 99;", "go 9;", 0, 1, 0, 0, 0, 0, 0);
        C.sentence("WRONG, the first: it would STALL, but the LINE ends");
        judged("slope 0 1;engine 1 99;", "go 1;", 0, 2, 0, 0, 0, 0, 0);
    }

    private static void wagons() {
        C.sentence("help: a HELPER with P at WAGON I; WRONG: 3 no such WAGON");
        judged(LINE, "help 0 1;help 2 999;", -1, 0, 0, 0, 0, 3, 0);
        judged(LINE, "help 3 1;", 0, 3, 0, 0, 0, 3, 0);
        judged(LINE, "help 19 1;", 0, 3, 0, 0, 0, 3, 0);
        judged("slope 0 9;", "help 0 1;", 0, 3, 0, 0, 0, 0, 0);
        for (int p : new int[] {1, 999}) {
            LongTrain x = on(LINE, "help 1 " + p + ";");
            x.judge(1);
            C.due("LOAD", x.train(5), 40 - p);
            C.due("COUPLING 1", x.wagon(1, 2), 20 - p);
            C.due("COUPLING 2", x.wagon(2, 2), 10);
        }
        C.sentence("cut: it PARTS ahead of WAGON I; WRONG: 3 no such WAGON");
        judged(LINE, "cut 2;", -1, 0, 0, 0, 0, 2, 1);
        judged(LINE, "cut 0;", -1, 0, 0, 0, 0, 0, 1);
        judged(LINE, "cut 3;", 0, 3, 0, 0, 0, 3, 0);
        judged(LINE, "cut 2;cut 2;", 1, 3, 0, 0, 0, 2, 1);
        judged(LINE, "cut 2;cut 1;cut 0;", -1, 0, 0, 0, 0, 0, 3);
        judged(LINE, "cut 2;cut 1;cut 0;cut 0;", 3, 3, 0, 0, 0, 0, 3);
        judged("slope 0 9;", "cut 0;", 0, 3, 0, 0, 0, 0, 0);
        String more = "slope 0 20;wagon a 1 1 999;train a a a a a a a a;halt ha 1 1;halt hb 2 1;halt hc 3 1;halt hd 4 1;"
                + "halt he 5 1;halt hf 6 1;halt hg 7 1;halt hh 8 1;halt hi 9 1;halt hj 10 1;adds ha a;adds hb a;adds hc a;adds hd a;"
                + "adds he a;adds hf a;adds hg a;adds hh a;adds hi a;adds hj a;";
        judged(more, "go 10;help 17 1;cut 17;", -1, 0, 10, 0, 10, 17, 1);
        judged(more, "go 10;help 18 1;", 1, 3, 10, 0, 10, 18, 0);
        judged(more, "go 10;cut 18;", 1, 3, 10, 0, 10, 18, 0);
        judged(more, "go 9;help 17 1;", 1, 3, 9, 0, 9, 17, 0);
    }

    private static void helpers() {
        C.sentence("off: all HELPERS away; WRONG: 4 there is no HELPER");
        judged(LINE, "off;", 0, 4, 0, 0, 0, 3, 0);
        judged(LINE, "help 0 1;off;", -1, 0, 0, 0, 0, 3, 0);
        judged(LINE, "help 0 1;help 1 1;off;off;", 3, 4, 0, 0, 0, 3, 0);
        LongTrain x = on(LINE, "help 0 1;help 0 2;help 1 3;help 2 4;");
        x.judge(1);
        C.due("four HELPERS", x.train(6), 4);
        C.due("LOAD", x.train(5), 40 - 10);
        Checks.plan(x, "off;");
        x.judge(1);
        C.due("none", x.train(6), 0);
        C.due("LOAD", x.train(5), 40);
        C.sentence("WRONG: 5 four HELPERS already");
        String four = "help 0 1;help 0 1;help 2 1;help 1 1;";
        judged(LINE, four, -1, 0, 0, 0, 0, 3, 0);
        judged(LINE, four + "help 0 1;", 4, 5, 0, 0, 0, 3, 0);
        judged(LINE, four + "off;" + four, -1, 0, 0, 0, 0, 3, 0);
        judged(LINE, four + "off;" + four + "help 2 1;", 9, 5, 0, 0, 0, 3, 0);
        LongTrain y = on(LINE, four);
        y.judge(1);
        C.due("four are there already", y.judge(1), 0);
        C.due("why", y.judged(0), 5);
        C.sentence("WRONG, the first: 3 no such WAGON, ahead of 5 four HELPERS already");
        judged(LINE, four + "help 3 1;", 4, 3, 0, 0, 0, 3, 0);
    }

    private static void rests() {
        C.sentence("rest: RUN-UP is 0; WRONG: 6 RUN-UP is 0 already");
        judged(LINE, "rest;", 0, 6, 0, 0, 0, 3, 0);
        judged("slope 0 9;engine 11 10;", "go 1;rest;", -1, 0, 1, 0, 1, 0, 0);
        judged("slope 0 9;engine 11 10;", "go 1;rest;rest;", 2, 6, 1, 0, 1, 0, 0);
        judged("slope 0 9;engine 10 10;", "go 1;rest;", 1, 6, 1, 0, 1, 0, 0);
        LongTrain x = on("slope 0 9;engine 11 10;", "go 3;rest;");
        x.judge(1);
        C.due("RUN-UP", x.train(2), 0);
        C.sentence("the ROW that is WRONG; NONE: none");
        judged(LINE, "", -1, 0, 0, 0, 0, 3, 0);
        String rows = "help 0 1;off;".repeat(14) + "help 0 1;";
        judged(LINE, rows + "off;", -1, 0, 0, 0, 0, 3, 0);
        judged(LINE, rows + "rest;", 29, 6, 0, 0, 0, 3, 0);
        judged(LINE, "rest;".repeat(30), 0, 6, 0, 0, 0, 3, 0);
    }

    private static void judges() {
        C.sentence("judge: -2: another does; judged: NONE: another what, or ahead of any");
        LongTrain x = on(LINE, "go 2;sand 1;cut 1;off;");
        for (int w = -1; w <= 6; w++) {
            C.due("judged(" + w + ") ahead of any", x.judged(w), -1);
        }
        for (int does : new int[] {-1, 2, -2, LOW, HIGH}) {
            C.due("judge(" + does + ")", x.judge(does), -2);
            C.due("judged(0) still", x.judged(0), -1);
            C.due("HEAD stays", x.train(0), 0);
        }
        C.due("judge(0)", x.judge(0), 3);
        int[] due = {4, 3, 1, 3, 1, 1};
        told(x, "the PLAN", due);
        C.sentence("Of the latest judge() that was not -2");
        C.due("judge(2)", x.judge(2), -2);
        told(x, "the PLAN", due);
        for (int w : new int[] {-1, 6, LOW, HIGH}) {
            C.due("judged(" + w + ")", x.judged(w), -1);
        }
        C.sentence("as far as it is not WRONG (1)");
        C.due("judge(1)", x.judge(1), 3);
        C.due("HEAD", x.train(0), 3);
        C.due("WAGONS", x.train(1), 1);
        C.due("RUN-UP", x.train(2), 60 + 60 + 70);
        C.sentence("A new LINE: the TRAIN at first, no HALVES, no PLAN");
        Checks.line(x, LINE);
        C.due("HEAD", x.train(0), 0);
        C.due("WAGONS", x.train(1), 3);
        C.due("RUN-UP", x.train(2), 0);
        C.due("HALVES", x.train(7), 0);
        C.due("ROWS of the PLAN", x.count(9), 0);
        C.due("judge(0)", x.judge(0), -1);
        told(x, "no PLAN", 0, 0, 0, 0, 3, 0);
        C.sentence("-1 less the place of a FAULT: it stays");
        Checks.plan(x, "go 2;");
        C.due("plan()", Checks.plan(x, "go 0;"), -4);
        C.due("ROWS of the PLAN", x.count(9), 1);
        C.due("judge(1)", x.judge(1), -1);
        C.due("HEAD", x.train(0), 2);
    }

    // ---- BETS

    private static int drawn(int seed, int draws, int n) {
        int x = seed;
        for (int i = 0; i < draws; i++) {
            x = x * 1103515245 + 12345;
        }
        return (x >>> 8) % n;
    }

    private static void bets() {
        C.sentence("less by a draw of (its STRENGTH by 4, cut, and 1)");
        for (int strength : new int[] {1, 3, 4, 7, 8, 11, 99, 100, 396}) {
            int n = strength / 4 + 1;
            for (int weight = Math.max(1, strength - n - 1); weight <= Math.min(99, strength + 1); weight++) {
                LongTrain x = C.on("slope 0 9;wagon a 1 " + weight + " " + strength + ";train a;wear 99;");
                int parted = 0;
                for (int seed = -4; seed < 4; seed++) {
                    boolean parts = weight > strength - drawn(seed, 1, n);
                    parted += parts ? 1 : 0;
                    C.due("bet(" + seed + ") of " + weight + " by " + strength, x.bet(seed), parts ? 1 : -1);
                }
                C.due("bets of " + weight + " by " + strength, x.bets(8, -4, 8), parted);
            }
        }
        C.sentence("FREE of STALLS, to the end of the LINE: the HEAD at which it PARTS first");
        LongTrain last = C.on("slope 0 8;slope 9 2;wagon a 1 9 18;engine 1 99;wear 99;train a;");
        C.due("at the last UNIT", last.bet(1), 9);
        C.due("bets ahead of it", last.bets(1, 1, 8), 0);
        C.due("bets to it", last.bets(1, 1, 9), 1);
        C.due("it does not part", C.on("slope 0 9;wagon a 1 9 99;train a;").bet(1), -1);
        C.due("no UNIT", new LongTrain().bet(1), -1);
        C.sentence("the WAGONS' at first, then each new one's as it comes");
        LongTrain x = C.on("slope 0 9;halt h 3 9;wagon a 1 1 999;wagon b 1 90 99;adds h b;train a a;wear 99;");
        int parted = 0;
        for (int seed = 100; seed < 200; seed++) {
            boolean parts = 90 > 99 - drawn(seed, 3, 25);
            parted += parts ? 1 : 0;
            C.due("bet(" + seed + ")", x.bet(seed), parts ? 4 : -1);
        }
        C.due("bets to 3", x.bets(100, 100, 3), 0);
        C.due("bets to 4", x.bets(100, 100, 4), parted);
        C.sentence("BETS by n seeds (1 to 200: x, x and 1, ..); NONE: not as told");
        int one = x.bets(1, 100, 8);
        C.due("one seed", one, 90 > 99 - drawn(100, 3, 25) ? 1 : 0);
        C.due("200 seeds", x.bets(200, 0, 8), x.bets(100, 0, 8) + parted);
        C.due("seeds wrap", x.bets(3, HIGH - 1, 8), x.bets(1, HIGH - 1, 8) + x.bets(1, HIGH, 8) + x.bets(1, LOW, 8));
        C.due("bets(1, 0, 0)", x.bets(1, 0, 0), 0);
        for (int n : new int[] {0, 201, -1, LOW, HIGH}) {
            C.due("bets(" + n + ", 0, 8)", x.bets(n, 0, 8), -1);
        }
        for (int unit : new int[] {-1, 9, LOW, HIGH}) {
            C.due("bets(1, 0, " + unit + ")", x.bets(1, 0, unit), -1);
        }
        C.due("bets of an empty LINE", new LongTrain().bets(1, 0, 0), -1);
    }

    /** WEAR of a BET by the lesser STRENGTH: 10 a MOVE, it parts when there is more than 'wear' times that. */
    private static void wornBets() {
        C.sentence("BET: WEAR is more than 'wear' times the lesser STRENGTH");
        for (int wear = 1; wear <= 3; wear++) {
            LongTrain x = C.on("slope 0 99;wagon a 1 10 40;train a;wear " + wear + ";");
            for (int seed = 0; seed < 60; seed++) {
                int strength = 40 - drawn(seed, 1, 11);
                int head = wear * strength / 10 + 2;
                C.due("bet(" + seed + ")", x.bet(seed), head);
                C.due("bets to the HEAD ahead", x.bets(1, seed, head - 1), 0);
                C.due("bets to the HEAD", x.bets(1, seed, head), 1);
            }
        }
    }

    // ---- images

    private static void images() {
        C.sentence("image: kept in place k (0, 1): true; false: no such one");
        LongTrain x = on(LINE, "go 1;");
        for (int k : new int[] {-1, 2, LOW, HIGH}) {
            C.due("image(" + k + ")", x.image(k), false);
            C.due("restore(" + k + ")", x.restore(k), false);
        }
        C.sentence("restore: false: no such one, or nothing is kept there");
        C.due("restore(0)", x.restore(0), false);
        C.due("restore(1)", x.restore(1), false);
        C.due("image(1)", x.image(1), true);
        C.due("restore(0) still", x.restore(0), false);
        C.due("restore(1)", x.restore(1), true);
        C.due("image(0)", x.image(0), true);
        C.due("restore(0)", x.restore(0), true);
        C.sentence("They are as kept in place k");
        x.judge(1);
        x.image(1);
        Checks.line(x, "");
        C.due("restore(0)", x.restore(0), true);
        C.due("HEAD of 0", x.train(0), 0);
        C.due("ROWS of the PLAN", x.count(9), 1);
        C.due("restore(1)", x.restore(1), true);
        C.due("HEAD of 1", x.train(0), 1);
        C.due("twice", x.restore(1), true);
        C.due("HEAD of 1", x.train(0), 1);
        C.sentence("an image of an empty LINE");
        LongTrain y = new LongTrain();
        y.image(0);
        Checks.line(y, LINE);
        C.due("restore(0)", y.restore(0), true);
        C.due("UNITS", y.count(0), 0);
        C.due("WAGONS", y.train(1), 0);
        C.sentence("(the tape, and what other calls told last, stays)");
        LongTrain z = on("slope 0 20;halt h 3 9;wagon a 1 1 99;adds h a;train a;", "go 1;off;");
        z.image(0);
        z.longest();
        Checks.loads(z, 0);
        z.judge(0);
        Checks.line(z, "rub 10;");
        Checks.line(z, "rub 10;");
        z.feed(1, 2, 3, 4, 5);
        String latest = Checks.latest(z);
        z.restore(0);
        C.due("what was told last", Checks.latest(z).equals(latest), true);
        C.due("placed(0)", z.placed(0), 0);
        C.due("load(0)", z.load(0), 0);
        C.due("judged(0)", z.judged(0), 4);
        C.due("fault()", z.fault(), 2);
        C.due("the tape", z.count(10), 20);
    }

    public static void main(String[] args) {
        moves();
        wagons();
        helpers();
        rests();
        judges();
        bets();
        wornBets();
        images();
        C.close("PlanBoundsTest");
    }
}
