/** Promises 21 to 23, 35 and 36: lives, longest, placed, bet, bets. */
public final class LivesTest {
    private static final Checks C = new Checks();
    private static final String HALTS = "halt a 2 9;halt b 5 9;halt c 9 9;halt d 11 9;halt e 13 9;";

    private static void places(LongTrain x, int halts, int... places) {
        C.due("longest()", x.longest(), halts);
        for (int i = -1; i < 5; i++) {
            C.due("placed(" + i + ")", x.placed(i), i >= 0 && i < places.length ? places[i] : -1);
        }
    }

    private static void rules() {
        // s is heavy and strong, w light and weak
        String kinds = "wagon w 1 5 20;wagon s 1 30 500;wear 99;";
        LongTrain x = C.on("slope 0 20;" + HALTS + kinds + "adds a s;adds b s;adds c s;train w;");
        C.due("at the end it parts at 3", x.lives(0), 1);
        C.due("behind the engine it does not", x.lives(1), 3);
        C.due("nor ahead of the weaker", x.lives(2), 3);
        C.due("lives(3)", x.lives(3), -1);
        C.due("lives(-1)", x.lives(-1), -1);
        C.due("placed(0) ahead of any", x.placed(0), -1);
        places(x, 3, 0, 0, 0);
        LongTrain y = C.on("slope 0 20;" + HALTS + kinds + "adds a w;adds b w;adds c w;adds d w;adds e w;train s;");
        C.due("w behind s: it parts at 14 only", y.lives(0), 5);
        C.due("w behind the engine", y.lives(1), 1);
        C.due("w is not put ahead of a like one", y.lives(2), 5);
        places(y, 5, 1, 1, 1, 1);
        places(C.on("slope 0 20;wagon w 1 5 1;train w;" + HALTS + "adds a w;"), 0);
        C.due("placed stays with another LINE", Checks.line(y, "rub 1;"), 1);
        C.due("placed(3)", y.placed(3), 1);
        places(y, 0);
    }

    private static void countsHalts() {
        String kinds = "wagon w 1 10 15;wear 99;train w;";
        LongTrain x = C.on("slope 0 20;halt z 0 9;halt a 2 9;halt b 3 9;" + kinds + "adds z w;adds a w;adds b w;");
        C.due("it parts in the MOVE to b, z is not come to", x.lives(0), 1);
        C.due("a HALT that adds nothing does not count",
                C.on("slope 0 9;halt a 2 9;halt b 3 9;wagon w 1 1 99;adds b w;").lives(0), 1);
        C.due("STALLS count nothing", C.on("slope 9 9;engine 1 99;halt a 8 9;wagon w 1 1 99;adds a w;").lives(2), 1);
        C.due("none comes on: none", C.on("slope 0 9;halt a 2 9;").longest(), 0);
        C.due("by now is not by first", goneLives(), 2);
    }

    private static int goneLives() {
        LongTrain x = C.on("slope 0 20;halt a 2 9;halt b 3 9;wagon w 1 1 99;adds a w;adds b w;");
        x.go(10, 0);
        return x.lives(1);
    }

    private static void wear() {
        // WEAR more than 40 parts. At first 10 a MOVE: 50 after 5, so it would part at 6 with none coming on
        String kinds = "wagon w 1 10 40;wagon v 1 10 999;wear 1;";
        LongTrain x = C.on("slope 0 30;halt a 2 9;halt b 6 9;halt c 7 9;" + kinds + "adds a w;adds b w;train w;");
        C.due("20 a MOVE from 3 on at the end: 60 at 4", x.lives(0), 1);
        C.due("behind the engine the new one bears 20 from 3 on, the old one keeps 20", x.lives(1), 1);
        LongTrain y = C.on("slope 0 30;halt a 5 9;halt b 7 9;halt c 9 9;" + kinds + "adds a w;adds b w;adds c w;train v;");
        C.due("a at 5; w bears 10 to 7, then 20: 40 after 8", y.lives(0), 3);
        // ahead of v a's w has 40 at 7 and more than that at 8, so it parts at 9; behind v it does not,
        // and b's w ahead of v has 30 at 8 only
        places(y, 3, 1, 0, 0);
    }

    private static void parts() {
        LongTrain x = C.on("slope 9 1;slope 0 9;halt a 3 9;wagon w 1 10 50;adds a w;train w;wear 99;");
        for (int rule = 0; rule < 3; rule++) {
            C.due("it parts at 1, rule " + rule, x.lives(rule), 0);
        }
        places(x, 0);
        // w and v are alike strong: WEAR of more than 150 parts. w has 50 at 10; behind it v bears 20, w 25:
        // 175 at 15; behind v w bears 5, v 25: 175 at 17
        LongTrain y = C.on("slope 0 40;halt a 10 9;halt b 17 9;wagon w 1 5 30;wagon v 1 20 30;adds a v;adds b w;train w;wear 5;");
        C.due("at the end", y.lives(0), 1);
        C.due("behind the engine", y.lives(1), 2);
        C.due("not ahead of one that is alike strong", y.lives(2), 1);
        places(y, 2, 0, 0);
        LongTrain z = C.on("slope 0 20;halt a 2 9;halt b 4 9;halt c 6 9;halt d 8 9;halt e 10 9;halt f 12 9;wagon w 1 10 45;"
                + "adds a w;adds b w;adds c w;adds d w;adds e w;adds f w;wear 99;");
        C.due("the fifth is too much", z.lives(0), 5);
        places(z, 5, 0, 0, 0, 0);
    }

    /** b comes on at 2 and bears 100 from 5 on: with a STRENGTH drawn below that it parts there. */
    private static void betsOfNew() {
        LongTrain x = C.on("slope 0 3;slope 9 9;halt h 2 9;wagon a 1 1 999;wagon b 1 10 110;adds h b;train a;wear 99;");
        int parted = 0;
        for (int seed = 0; seed < 60; seed++) {
            int drawn = (seed * 1103515245 + 12345) * 1103515245 + 12345;
            boolean parts = 110 - (drawn >>> 8) % 28 < 100;
            parted += parts ? 1 : 0;
            C.due("bet(" + seed + ") of one that comes on", x.bet(seed), parts ? 5 : -1);
        }
        C.due("bets by 4", x.bets(60, 0, 4), 0);
        C.due("bets by 5", x.bets(60, 0, 5), parted);
        C.due("bets by 11", x.bets(60, 0, 11), parted);
    }

    private static void bets() {
        LongTrain x = C.on("slope 0 9;wagon a 1 80 100;train a;wear 99;");
        int parted = 0;
        for (int seed = -20; seed < 180; seed++) {
            int drawn = seed * 1103515245 + 12345;
            boolean parts = 100 - (drawn >>> 8) % 26 < 80;
            parted += parts ? 1 : 0;
            C.due("bet(" + seed + ")", x.bet(seed), parts ? 1 : -1);
        }
        C.due("bets(200, -20, 1)", x.bets(200, -20, 1), parted);
        C.due("bets(200, -20, 8)", x.bets(200, -20, 8), parted);
        C.due("none parts at 0", x.bets(200, -20, 0), 0);
        C.due("bets(0, 0, 0)", x.bets(0, 0, 0), -1);
        C.due("bets(201, 0, 0)", x.bets(201, 0, 0), -1);
        C.due("bets(1, 0, 9)", x.bets(1, 0, 9), -1);
        C.due("bets(1, 0, -1)", x.bets(1, 0, -1), -1);
        LongTrain y = C.on("slope 0 9;slope 4 9;halt h 3 9;wagon a 1 10 200;adds h a;train a a;wear 1;rub 2;");
        for (int seed = 0; seed < 40; seed++) {
            C.due("bet(" + seed + ") of three", y.bet(seed), threeBet(seed));
            int head = threeBet(seed);
            for (int unit = 0; unit < 18; unit += 3) {
                C.due("bets(1, " + seed + ", " + unit + ")", y.bets(1, seed, unit), head >= 0 && head <= unit ? 1 : 0);
            }
        }
        C.due("seeds wrap", y.bets(2, Integer.MAX_VALUE, 17),
                y.bets(1, Integer.MAX_VALUE, 17) + y.bets(1, Integer.MIN_VALUE, 17));
        C.due("no WAGONS", C.on("slope 0 9;").bet(5), -1);
    }

    /** The second LINE of bets(), by hand: two WAGONS at first and one from HEAD 4 on. */
    private static int threeBet(int seed) {
        int[] strength = new int[3];
        int[] wear = new int[3];
        int drawn = seed;
        for (int i = 0; i < 3; i++) {
            drawn = drawn * 1103515245 + 12345;
            strength[i] = 200 - (drawn >>> 8) % 51;
        }
        for (int head = 1; head < 18; head++) {
            int n = head > 3 ? 3 : 2;
            int[] bears = new int[n];
            int sum = 0;
            for (int i = n - 1; i >= 0; i--) {
                sum += 10 * ((head - 1 - i >= 9 ? 4 : 0) + 2);
                bears[i] = sum;
            }
            for (int i = 0; i < n; i++) {
                if (bears[i] > strength[i] || wear[i] > strength[i]) {
                    return head;
                }
            }
            for (int i = 0; i < n; i++) {
                wear[i] += bears[i];
            }
        }
        return -1;
    }

    public static void main(String[] args) {
        rules();
        countsHalts();
        wear();
        parts();
        bets();
        betsOfNew();
        C.close("LivesTest");
    }
}
