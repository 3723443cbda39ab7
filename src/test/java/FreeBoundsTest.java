import java.util.Arrays;

/**
 * Promises 13 to 15 and 17 to 31, and what the document's section 3 says of the TRAIN at first as it
 * goes FREE: every bound that it names, the last that is taken and the first that is refused.
 */
public final class FreeBoundsTest {
    private static final Checks C = new Checks();
    private static final int LOW = Integer.MIN_VALUE;
    private static final int HIGH = Integer.MAX_VALUE;
    /** Ways that are not as told on a LINE of 20 UNITS. */
    private static final int[][] NO_WAYS = {{-1, 5}, {0, 20}, {20, 20}, {6, 5}, {19, 18}, {-1, -1}, {LOW, 0}, {0, HIGH},
        {HIGH, HIGH}, {HIGH, LOW}};

    private static void due(String what, int got, int want) {
        C.due(what, got, want);
    }

    // ---- what is borne

    private static void frees() {
        C.sentence("FREE goes: without RUN-UP looked at (it never STALLS) and without parting (STRENGTH, WEAR count nothing)");
        LongTrain x = C.on("slope 9 20;wagon a 1 99 1;wear 1;engine 1 99;train a a;");
        due("the most that is borne", x.strain(0, 19, 0), 2 * 990);
        due("at the last UNIT", x.strain(19, 19, 0), 2 * 990);
        due("HEADS", x.span(17, 19, 0), 1);
        C.sentence("By the TRAIN at first");
        x.go(1, 0);
        Checks.plan(x, "cut 0;");
        x.judge(1);
        due("WAGONS now", x.train(1), 0);
        due("the most that is borne at first", x.strain(0, 0, 0), 2 * 99);
    }

    private static void strains() {
        LongTrain x = C.on("slope 0 5;slope 3 1;slope 0 5;slope-3 1;slope 0 8;wagon a 1 10 99;train a;");
        C.sentence("STRAIN: the most that a COUPLING BEARS at a HEAD from a to b");
        // the WAGON is at UNIT 5 with HEAD at 6, at UNIT 11 with HEAD at 12
        due("from its HEAD", x.strain(6, 9, 0), 40);
        due("from behind it", x.strain(7, 9, 0), 10);
        due("to its HEAD", x.strain(0, 6, 0), 40);
        due("to ahead of it", x.strain(0, 5, 0), 10);
        due("squeeze from its HEAD", x.squeeze(12, 15, 0), -20);
        due("squeeze from behind it", x.squeeze(13, 15, 0), 10);
        due("squeeze to its HEAD", x.squeeze(8, 12, 0), -20);
        due("squeeze to ahead of it", x.squeeze(8, 11, 0), 10);
        C.sentence("NONE: not as told (0 to the last UNIT, a no more than b)");
        due("strain(0, 19, 1)", x.strain(0, 19, 1), 6);
        due("squeeze(0, 19, 1)", x.squeeze(0, 19, 1), 12);
        due("strain(19, 19, 1)", x.strain(19, 19, 1), 19);
        due("strain(0, 0, 1)", x.strain(0, 0, 1), 0);
        for (int[] w : NO_WAYS) {
            for (int what = 0; what < 3; what++) {
                due("strain" + Arrays.toString(w), x.strain(w[0], w[1], what), -1);
                due("squeeze" + Arrays.toString(w), x.squeeze(w[0], w[1], what), -1);
            }
        }
        C.sentence("NoSuchElementException: another what");
        for (int what : new int[] {-1, 3, LOW, HIGH}) {
            C.throwsNoSuch("strain(0, 1, " + what + ")", () -> x.strain(0, 1, what));
            C.throwsNoSuch("squeeze(0, 1, " + what + ")", () -> x.squeeze(0, 1, what));
            C.throwsNoSuch("strain(1, 0, " + what + ")", () -> x.strain(1, 0, what));
            C.throwsNoSuch("squeeze(1, 0, " + what + ")", () -> x.squeeze(1, 0, what));
        }
        C.sentence("(ahead of what comes on there); NONE: no WAGONS then");
        LongTrain y = C.on("slope 0 9;halt h 3 9;halt k 5 9;wagon a 1 10 99;adds h a;adds k a;");
        due("to its HALT", y.strain(0, 3, 0), -1);
        due("to its HALT, the HEAD", y.strain(0, 3, 1), -1);
        due("to its HALT, the COUPLING", y.squeeze(0, 3, 2), -1);
        due("behind it", y.strain(0, 4, 0), 10);
        due("at the next HALT", y.strain(0, 5, 0), 10);
        due("behind that", y.strain(0, 6, 0), 20);
        due("no WAGONS at all", C.on("slope 0 9;").strain(0, 8, 0), -1);
        due("an empty LINE", new LongTrain().strain(0, 0, 0), -1);
        C.sentence("of like ones the first HEAD, then the least COUPLING");
        LongTrain z = C.on("slope 0 9;wagon a 1 10 99;rub 0;train a a a;");
        due("the first HEAD", z.strain(2, 8, 1), 2);
        due("the least COUPLING", z.strain(2, 8, 2), 0);
        due("the first HEAD of squeeze", z.squeeze(2, 8, 1), 2);
        due("the least COUPLING of squeeze", z.squeeze(2, 8, 2), 0);
    }

    private static void spans() {
        C.sentence("SPAN: HEADS from 0 to the last UNIT at which the TRAIN stands on both (engine and WAGONS)");
        LongTrain x = C.on("slope 0 20;halt h 10 9;wagon a 2 1 99;adds h a;train a;");
        // it is 3 UNITS long, and 5 with HEAD at 10 and on
        due("HEADS on UNIT 0", x.span(0, 0, 0), 3);
        due("the first", x.span(0, 0, 1), 0);
        due("HEADS on the last UNIT", x.span(19, 19, 0), 1);
        due("the first", x.span(19, 19, 1), 19);
        due("HEADS on both ends of it", x.span(2, 4, 0), 1);
        due("the first", x.span(2, 4, 1), 4);
        due("told the other way", x.span(4, 2, 1), 4);
        due("one UNIT too many", x.span(2, 5, 0), 0);
        C.sentence("(with what came on there)");
        due("with HEAD at 10", x.span(6, 10, 0), 1);
        due("the first", x.span(6, 10, 1), 10);
        due("one UNIT too many", x.span(5, 10, 0), 0);
        due("with HEAD at 9 it was not there", x.span(5, 9, 0), 0);
        due("at the end", x.span(15, 19, 1), 19);
        due("one UNIT too many at the end", x.span(14, 19, 1), -1);
        C.sentence("NONE: no such ones, none (1), another what");
        due("none (0)", x.span(0, 19, 0), 0);
        due("none (1)", x.span(0, 19, 1), -1);
        int[][] wrong = {{-1, 0, 0}, {0, -1, 0}, {20, 19, 0}, {19, 20, 0}, {-1, -1, 1}, {20, 20, 1}, {0, 0, -1}, {0, 0, 2},
            {LOW, 0, 0}, {0, HIGH, 1}, {0, 0, LOW}, {0, 0, HIGH}};
        for (int[] w : wrong) {
            due("span" + Arrays.toString(w), x.span(w[0], w[1], w[2]), -1);
        }
        due("an empty LINE", new LongTrain().span(0, 0, 0), -1);
    }

    // ---- what is climbed

    private static final String HILL = "slope 0 5;slope 1 5;slope 0 10;halt h 3 9;halt k 7 9;wagon a 1 10 99;adds h a;adds k a;"
            + "engine 20 10;sand 7;";

    /** RUN-UP is more by this at each HEAD of HILL: the engine's DRAG, one WAGON's from 4 on, two WAGONS' from 8 on. */
    private static final int[] GAINS = {0, 10, 10, 10, 0, -10, -20, -20, -40, -40, -30, -20, -10, -10, -10, -10, -10, -10, -10, -10};

    private static int climbed(int a, int b, int e) {
        int runUp = e;
        for (int head = a + 1; head <= b; head++) {
            runUp += GAINS[head];
            if (runUp < 0) {
                return head - 1;
            }
        }
        return b;
    }

    private static void climbs() {
        LongTrain x = C.on(HILL);
        C.sentence("CLIMB from a (with what came on there) to b: the UNIT to which it comes; NEEDED: the least e");
        due("just 0 all the way", C.on("slope 0 20;engine 10 10;").climb(0, 19, 0), 19);
        for (int a = 0; a < 20; a++) {
            for (int b = a; b < 20; b++) {
                int e = x.needed(a, b);
                due("climb to " + b + " from " + a + " with " + e, x.climb(a, b, e), b);
                due("needed(" + a + ", " + b + ")", climbed(a, b, e), b);
                if (e > 0) {
                    due("climb to " + b + " from " + a + " with " + (e - 1), x.climb(a, b, e - 1), climbed(a, b, e - 1));
                    C.due("it is less than " + b, climbed(a, b, e - 1) < b, true);
                }
            }
        }
        due("what came on at 3 is there at 3", x.needed(3, 6), 30);
        due("and comes on from 2", x.needed(2, 6), 20);
        due("a is b", x.climb(7, 7, 0), 7);
        due("a is b", x.needed(7, 7), 0);
        C.sentence("RUN-UP e (0 to 99999)");
        due("climb(0, 19, 99999)", x.climb(0, 19, 99999), 19);
        due("sanded(0, 19, 99999)", x.sanded(0, 19, 99999), 0);
        due("helped(0, 0, 99999, 1)", x.helped(0, 0, 99999, 1), 0);
        for (int e : new int[] {-1, 100000, LOW, HIGH}) {
            due("climb by " + e, x.climb(0, 19, e), -1);
            due("sanded by " + e, x.sanded(0, 19, e), -1);
            due("helped by " + e, x.helped(0, 19, e, 1), -1);
        }
        C.sentence("NONE: not as told");
        for (int[] w : NO_WAYS) {
            due("climb" + Arrays.toString(w), x.climb(w[0], w[1], 0), -1);
            due("needed" + Arrays.toString(w), x.needed(w[0], w[1]), -1);
            due("sanded" + Arrays.toString(w), x.sanded(w[0], w[1], 0), -1);
            due("helped" + Arrays.toString(w), x.helped(w[0], w[1], 0, 1), -1);
        }
        due("climb(19, 19, 0)", x.climb(19, 19, 0), 19);
        due("climb(0, 0, 0)", x.climb(0, 0, 0), 0);
        C.sentence("the least e, though it is more than climb() takes");
        // LOAD 990 and PULL 1: 989 a MOVE
        LongTrain y = C.on("slope 9 99;slope 9 99;slope 9 99;engine 1 99;");
        due("101 MOVES", y.needed(0, 101), 101 * 989);
        due("that many are climbed", y.climb(0, 101, 101 * 989), 101);
        due("102 MOVES", y.needed(0, 102), 102 * 989);
        due("the most RUN-UP", y.climb(0, 102, 99999), 101);
    }

    private static void sands() {
        C.sentence("SANDED: the fewest UNITS of sand (one for a MOVE at most)");
        LongTrain x = C.on("slope 0 9;engine 3 10;sand 7;");
        for (int b = 0; b < 9; b++) {
            due("one for each MOVE to " + b, x.sanded(0, b, 0), b);
            due("one less to " + b, x.sanded(0, b, 7), Math.max(0, b - 1));
            due("none less for a RUN-UP of 6, to " + b, x.sanded(0, b, 6), b);
        }
        C.sentence("NONE: no sand is enough");
        due("1 below 0", C.on("slope 0 9;engine 2 10;sand 7;").sanded(0, 1, 0), -1);
        due("RUN-UP for that", C.on("slope 0 9;engine 2 10;sand 7;").sanded(0, 8, 8), 8);
        due("1 less", C.on("slope 0 9;engine 2 10;sand 7;").sanded(0, 8, 7), -1);
        due("sand of 0 that is needed", C.on("slope 0 9;engine 9 10;sand 0;").sanded(0, 8, 7), -1);
        due("and is not", C.on("slope 0 9;engine 9 10;sand 0;").sanded(0, 8, 8), 0);
        due("a is b", C.on("slope 0 9;engine 1 99;sand 0;").sanded(8, 8, 0), 0);
        C.sentence("with which it comes to b with RUN-UP e");
        LongTrain y = C.on(HILL);
        for (int a = 0; a < 20; a++) {
            for (int b = a; b < 20; b++) {
                for (int e = 0; e < 300; e += 23) {
                    due("sanded(" + a + ", " + b + ", " + e + ")", y.sanded(a, b, e), fewest(a, b, e));
                }
            }
        }
    }

    /** So many UNITS of 7 in the first MOVES, one more until it comes to b. */
    private static int fewest(int a, int b, int e) {
        for (int sand = 0; sand <= b - a; sand++) {
            int runUp = e;
            int head = a;
            while (head < b && runUp >= 0) {
                head++;
                runUp += GAINS[head] + (head - a <= sand ? 7 : 0);
            }
            if (runUp >= 0) {
                return sand;
            }
        }
        return -1;
    }

    private static void helps() {
        C.sentence("HELPED: one HELPER lets it come from a to b with RUN-UP e");
        LongTrain x = C.on("slope 0 20;wagon a 1 10 99;train a a;engine 10 5;");
        // LOAD 25: 15 more than PULL a MOVE
        due("P for just 0", x.helped(0, 19, 0, 15), 3);
        due("P for 1 below 0", x.helped(0, 19, 0, 14), 0);
        due("RUN-UP for it", x.helped(0, 19, 19, 14), 3);
        due("1 less", x.helped(0, 19, 18, 14), 0);
        C.sentence("so that no COUPLING BEARS more than its STRENGTH on the way");
        LongTrain y = C.on("slope 0 20;wagon a 1 10 17;train a a a;engine 99 5;");
        // 30, 20 and 10 are borne of 17
        due("13 at the last two", y.helped(0, 19, 0, 13), 6);
        due("12 at neither", y.helped(0, 19, 0, 12), 0);
        due("P that is more than all", y.helped(0, 19, 0, 999), 6);
        LongTrain top = C.on("slope 0 18;slope 1 2;wagon a 1 10 19;train a;engine 99 1;");
        due("STRENGTH is looked at to b", top.helped(0, 19, 0, 1), 1);
        due("as just enough", top.helped(17, 19, 0, 1), 1);
        LongTrain less = C.on("slope 0 18;slope 1 2;wagon a 1 10 18;train a;engine 99 1;");
        due("more than it at b", less.helped(0, 19, 0, 1), 0);
        due("enough ahead of b", less.helped(0, 18, 0, 1), 1);
        due("enough with 2", less.helped(0, 19, 0, 2), 1);
        C.sentence("WAGONS (of those at HEAD a; as bits)");
        LongTrain z = C.on("slope 0 20;halt h 3 9;halt k 5 9;wagon a 1 1 99;adds h a;adds k a;train a;");
        due("from 2", z.helped(2, 19, 0, 1), 1);
        due("from 3, with what came on there", z.helped(3, 19, 0, 1), 3);
        due("from 4", z.helped(4, 19, 0, 1), 3);
        due("from 5, with what came on there", z.helped(5, 19, 0, 1), 7);
        due("at the last UNIT", z.helped(19, 19, 0, 1), 7);
        due("none", C.on("slope 0 20;").helped(0, 19, 0, 1), 0);
        LongTrain on = C.on("slope 0 20;halt h 10 9;wagon a 1 10 25;adds h a;train a a;engine 99 1;");
        due("to where a third comes on", on.helped(0, 10, 0, 1), 3);
        due("it bears 30 less 1 of 25 from there on", on.helped(0, 11, 0, 1), 0);
        due("and 30 less 5", on.helped(0, 11, 0, 5), 3);
        C.sentence("HELPED by P (1 to 999)");
        for (int p : new int[] {0, 1000, -1, LOW, HIGH}) {
            due("by " + p, z.helped(0, 19, 0, p), -1);
        }
        due("by 999", z.helped(0, 19, 0, 999), 1);
    }

    // ---- how long it lives

    private static void places(LongTrain x, int halts, int... places) {
        due("longest()", x.longest(), halts);
        for (int i = -1; i <= 4; i++) {
            due("placed(" + i + ")", x.placed(i), i >= 0 && i < places.length ? places[i] : -1);
        }
        due("placed(min)", x.placed(LOW), -1);
        due("placed(max)", x.placed(HIGH), -1);
    }

    private static void lives() {
        C.sentence("LIVES by a rule (0 to 2); NONE: another one");
        LongTrain x = C.on("slope 0 20;halt h 3 9;wagon a 1 1 99;adds h a;");
        for (int rule = 0; rule < 3; rule++) {
            due("rule " + rule, x.lives(rule), 1);
        }
        for (int rule : new int[] {-1, 3, LOW, HIGH}) {
            due("rule " + rule, x.lives(rule), -1);
        }
        C.sentence("HALTS that add it comes to ahead of the MOVE in which it PARTS");
        // two WAGONS bear 20 of 15: with the second that came on at 5 it parts in the MOVE to 6
        String row = "wagon a 1 10 15;wear 99;adds h a;adds k a;adds m a;";
        due("a HALT in the MOVE ahead of that", C.on("slope 0 20;halt h 3 9;halt k 5 9;halt m 7 9;" + row).lives(0), 2);
        due("a HALT in that MOVE", C.on("slope 0 20;halt h 3 9;halt k 5 9;halt m 6 9;" + row).lives(0), 2);
        due("it does not part", C.on("slope 0 20;halt h 3 9;halt k 5 9;halt m 19 9;" + row.replace("15", "20")).lives(0), 3);
        due("nor at once behind the last", C.on("slope 0 20;halt h 3 9;halt k 5 9;halt m 7 9;" + row.replace("15", "20")).lives(0), 3);
        C.sentence("(STALLS count nothing; the end of the LINE: all)");
        due("it would stall", C.on("slope 9 20;halt h 19 9;wagon a 1 1 99;adds h a;engine 1 99;").lives(0), 1);
        due("at the last UNIT", C.on("slope 0 20;halt h 19 9;wagon a 1 1 99;adds h a;").lives(1), 1);
        due("no UNIT", new LongTrain().lives(2), 0);
        C.sentence("2 ahead of the first WAGON that is weaker (at the end, if there is none)");
        // n ahead of w bears 40 and w 10; at the end w bears 40 of 39, so it parts in the MOVE to 4
        String weak = "slope 0 9;halt h 3 9;halt m 8 9;wagon w 1 10 39;wear 99;train w;adds m w;";
        due("w is weaker by 1", C.on(weak + "wagon n 1 30 40;adds h n;").lives(2), 2);
        due("n at the end", C.on(weak + "wagon n 1 30 40;adds h n;").lives(0), 1);
        // WEAR of more than 150 parts: w has 50 at 10; behind it n bears 20, w 25: 175 at 15; behind n w bears 5,
        // n 25: 175 at 17
        String alike = "slope 0 40;halt a 10 9;halt b 17 9;wagon w 1 5 30;adds b w;train w;wear 5;";
        due("w is alike strong, so at the end", C.on(alike + "wagon n 1 20 30;adds a n;").lives(2), 1);
        due("w is weaker by 1", C.on(alike + "wagon n 1 20 31;adds a n;").lives(2), 2);
        due("w is stronger, so at the end", C.on(weak + "wagon n 1 29 30;adds h n;").lives(2), 2);
        due("behind the engine n would bear 39 of 30", C.on(weak + "wagon n 1 29 30;adds h n;").lives(1), 1);
        due("behind the engine", C.on(weak + "wagon n 1 29 39;adds h n;").lives(1), 2);
        C.sentence("each place keeping its own WEAR with the WAGON that is behind it");
        // w has 30 of WEAR with HEAD at 3 and holds 40, so it has 50 with HEAD at 5 and parts at 6
        String worn = "slope 0 20;halt h 3 9;wagon w 1 10 40;wagon n 1 1 999;adds h n;train w;wear 1;";
        due("a HALT at 5", C.on(worn + "halt k 5 9;adds k n;").lives(1), 2);
        due("a HALT at 6", C.on(worn + "halt k 6 9;adds k n;").lives(1), 1);
    }

    private static void longests() {
        C.sentence("NONE: there was none such, or ahead of any");
        LongTrain none = new LongTrain();
        for (int i = -1; i <= 4; i++) {
            due("placed(" + i + ") ahead of any", none.placed(i), -1);
        }
        places(none, 0);
        C.sentence("for the first 4 HALTS that add (others at the end)");
        StringBuilder text = new StringBuilder("slope 0 30;wagon s 1 1 999;wagon w 1 9 20;wear 99;train s;");
        for (int n = 1; n <= 6; n++) {
            text.append("halt h").append((char) ('a' + n)).append(' ').append(3 * n).append(" 9;");
            text.append("adds h").append((char) ('a' + n)).append(" s;");
            places(C.on(text.toString()), n, new int[Math.min(n, 4)]);
        }
        // w bears 9, and 1 of each s behind it; the fifth and sixth s go behind it: at STRENGTH 10 the fifth
        // is borne and the sixth parts it too late, at 9 the fifth does
        LongTrain x = C.on(text.toString().replace("train s", "train w").replace("w 1 9 20", "w 1 9 10"));
        places(x, 6, 0, 0, 0, 0);
        C.due("at the end it parts with the second", x.lives(0), 2);
        LongTrain y = C.on(text.toString().replace("train s", "train w").replace("w 1 9 20", "w 1 9 9"));
        places(y, 5, 0, 0, 0, 0);
        C.due("the fifth is at the end", y.lives(1), 6);
        C.sentence("of like ones the first row of places (0: behind the engine; as many as came on ahead of that MOVE)");
        places(C.on("slope 0 9;wagon w 1 9 8;train w;halt h 3 9;adds h w;"), 0);
        places(C.on("slope 0 9;wagon w 1 9 8;wagon s 1 1 99;halt h 3 9;adds h w;halt k 4 9;adds k s;"), 1, 0);
        places(C.on("slope 0 9;wagon w 1 9 9;wagon s 1 1 99;train w;halt h 3 9;adds h s;halt k 4 9;adds k s;"), 2, 0, 0);
        places(C.on("slope 0 9;wagon w 1 9 9;wagon s 1 1 99;train s;halt h 3 9;adds h w;halt k 5 9;adds k s;"), 2, 1, 0);
    }

    // ---- HALTS

    private static void platforms() {
        C.sentence("PLATFORM: WAGONS all of whose UNITS are from AT less LONG, and 1, to AT");
        int[] bits = {0, 0, 1, 1, 3, 3, 3, 7, 7};
        for (int size = 1; size <= bits.length; size++) {
            // the engine's UNIT and 2, 2, 3 behind it
            LongTrain x = C.on("slope 0 20;halt h 10 " + size + ";wagon a 2 1 99;wagon b 3 1 99;train a a b;");
            due("LONG " + size, x.platform(0), bits[size - 1]);
            due("ROOM of it", x.room(0), 8);
        }
        C.sentence("(ahead of what it adds)");
        LongTrain y = C.on("slope 0 20;halt g 0 99;halt h 3 99;halt k 4 99;halt m 19 99;wagon a 2 1 99;adds h a;adds k a;adds m a;");
        int[] atBits = {0, 0, 1, 3};
        int[] rooms = {0, 0, 3, 5};
        for (int h = 0; h < 4; h++) {
            due("platform(" + h + ")", y.platform(h), atBits[h]);
            due("room(" + h + ")", y.room(h), rooms[h]);
        }
        C.sentence("NONE: no such one");
        for (int h : new int[] {-1, 4, LOW, HIGH}) {
            due("platform(" + h + ")", y.platform(h), -1);
            due("room(" + h + ")", y.room(h), -1);
        }
        due("platform(0) of an empty LINE", new LongTrain().platform(0), -1);
        due("room(0) of an empty LINE", new LongTrain().room(0), -1);
        C.sentence("ROOM: the least LONG with which all WAGONS that are there are at its PLATFORM");
        for (int size = 9; size <= 11; size++) {
            LongTrain z = C.on("slope 0 20;halt h 10 " + size + ";wagon a 9 1 99;train a;");
            due("room(0)", z.room(0), 10);
            due("LONG " + size, z.platform(0), size >= 10 ? 1 : 0);
        }
        due("more than a HALT can be LONG", C.on("slope 0 99;halt h 90 99;wagon a 9 1 99;train a a a a a a a a;").room(0), 73);
    }

    private static void cooks() {
        C.sentence("only if what it BEARS is no more than half its WAGON's STRENGTH, cut");
        int[][] due = {{20, 1}, {21, 1}, {19, -1}, {18, -1}};
        for (int[] d : due) {
            LongTrain x = C.on("slope 0 20;wagon a 1 10 " + d[0] + ";train a a;walk 9;");
            due("cook, STRENGTH " + d[0], x.cook(0, 1, 0), d[1]);
            due("back, STRENGTH " + d[0], x.back(0, 1, 0), d[1]);
        }
        C.sentence("in each minute he goes 'walk' UNITS on along the WAGONS");
        for (int walk = 1; walk <= 9; walk++) {
            LongTrain x = C.on("slope 0 20;wagon a 3 1 99;wagon b 5 1 99;train a b a;walk " + walk + ";");
            due("8 UNITS by " + walk, x.cook(0, 2, 0), (8 + walk - 1) / walk);
            due("8 UNITS back by " + walk, x.back(0, 2, 0), (8 + walk - 1) / walk);
            due("3 UNITS by " + walk, x.cook(0, 1, 0), (3 + walk - 1) / walk);
            due("5 UNITS by " + walk, x.cook(1, 2, 0), (5 + walk - 1) / walk);
        }
        C.sentence("(0, if i is j)");
        LongTrain y = C.on("slope 0 20;halt h 3 9;wagon a 2 10 1;adds h a;train a a;walk 1;");
        for (int i = 0; i < 2; i++) {
            due("cook to himself", y.cook(i, i, 0), 0);
            due("back to himself", y.back(i, i, 19), 0);
        }
        C.sentence("the minute at the last UNIT is the last one; NONE: he is not there at the end of the LINE");
        LongTrain z = C.on("slope 0 20;halt h 3 9;wagon a 2 1 99;adds h a;train a a;walk 1;");
        for (int a = 0; a < 20; a++) {
            due("2 UNITS from " + a, z.cook(0, 1, a), a <= 18 ? 2 : -1);
            due("2 UNITS back from " + a, z.back(0, 1, a), a <= 18 ? 2 : -1);
            due("4 UNITS from " + a, z.cook(0, 2, a), a >= 3 && a <= 16 ? 4 : -1);
            due("4 UNITS back from " + a, z.back(0, 2, a), a >= 3 && a <= 16 ? 4 : -1);
        }
        C.sentence("not as told (WAGONS that are there at HEAD a, i no more than j)");
        int[][] wrong = {{-1, 0, 5}, {-1, -1, 5}, {0, 3, 5}, {3, 3, 5}, {1, 0, 5}, {2, 1, 5}, {0, 0, -1}, {0, 0, 20}, {0, 1, -1},
            {0, 1, 20}, {2, 2, 2}, {0, 2, 2}, {LOW, 0, 5}, {0, HIGH, 5}, {HIGH, HIGH, 5}, {0, 0, LOW}, {0, 0, HIGH}};
        for (int[] w : wrong) {
            due("cook" + Arrays.toString(w), z.cook(w[0], w[1], w[2]), -1);
            due("back" + Arrays.toString(w), z.back(w[0], w[1], w[2]), -1);
        }
        due("what came on at 3 is there at 3", z.cook(2, 2, 3), 0);
        due("and back", z.back(2, 2, 3), 0);
        due("no WAGONS", C.on("slope 0 9;").cook(0, 0, 0), -1);
        due("an empty LINE", C.on("wagon a 1 1 1;train a;").cook(0, 0, 0), -1);
        C.sentence("COOK, FREE: taking on WAGONS");
        LongTrain comes = C.on("slope 0 20;halt h 4 9;wagon a 2 10 39;adds h a;train a a;walk 1;");
        due("past it ahead of what comes on", comes.cook(0, 1, 2), 2);
        due("what comes on closes it", comes.cook(0, 1, 3), -1);
        due("past it back ahead of that", comes.back(0, 1, 3), 2);
        due("closed back", comes.back(0, 1, 4), -1);
        C.sentence("ahead of the MOVE; else he stays at it for that minute");
        // half of 40 is borne but for the MOVE in which WAGON 1 is at UNIT 6 or 7, with HEAD at 9 and 10
        LongTrain v = C.on("slope 0 6;slope 2 2;slope 0 20;wagon a 2 10 40;train a a;walk 2;");
        due("with HEAD at 8", v.cook(0, 1, 8), 1);
        due("with HEAD at 9", v.cook(0, 1, 9), 3);
        due("with HEAD at 10", v.cook(0, 1, 10), 2);
        due("with HEAD at 11", v.cook(0, 1, 11), 1);
        due("back with HEAD at 8", v.back(0, 1, 8), 1);
        due("back with HEAD at 9", v.back(0, 1, 9), 3);
        due("back with HEAD at 10", v.back(0, 1, 10), 2);
    }

    private static void loads() {
        C.sentence("LOADS: goods for HALTS (1 to 8 told), the tape's bytes being HALTS; NONE: not as told");
        LongTrain x = C.on("slope 0 30;halt a 9 2;halt b 10 3;halt c 11 99;wagon k 1 1 99;adds a k;train k k k k k k k k;");
        due("load(0) ahead of any", x.load(0), -1);
        due("none told", Checks.loads(x), -1);
        due("load(0) still", x.load(0), -1);
        due("one", Checks.loads(x, 0), 1);
        due("load(0)", x.load(0), 0);
        due("load(1)", x.load(1), -1);
        due("eight", Checks.loads(x, 2, 2, 2, 2, 2, 2, 2, 2), 8);
        for (int i = 0; i < 8; i++) {
            due("load(" + i + ")", x.load(i), i);
        }
        due("nine", Checks.loads(x, 2, 2, 2, 2, 2, 2, 2, 2, 2), -1);
        due("the last HALT", Checks.loads(x, 2), 1);
        due("no such HALT", Checks.loads(x, 3), -1);
        due("no such HALT behind others", Checks.loads(x, 0, 1, 2, 3), -1);
        due("no such HALT", Checks.loads(x, 255), -1);
        due("no such HALT", Checks.loads(x, 128), -1);
        C.sentence("The WAGON of load i by the latest loads() that was not NONE; NONE: none, no such one");
        due("load(0)", x.load(0), 0);
        due("load(1)", x.load(1), -1);
        due("two for one WAGON", Checks.loads(x, 0, 0), 1);
        due("load(0)", x.load(0), 0);
        due("load(1): none", x.load(1), -1);
        for (int i : new int[] {-1, 2, 8, LOW, HIGH}) {
            due("load(" + i + ")", x.load(i), -1);
        }
        C.sentence("each in a WAGON of its own (of the TRAIN at first) that is at its HALT's PLATFORM");
        LongTrain y = C.on("slope 0 30;halt a 9 9;halt b 10 99;wagon k 1 1 99;adds a k;train k;");
        due("what came on is none of the TRAIN at first", Checks.loads(y, 1, 1), 1);
        due("LONG 2 is one WAGON, 3 are two", Checks.loads(x, 0, 1, 1), 2);
        due("no WAGONS", Checks.loads(C.on("slope 0 9;halt a 5 9;"), 0), 0);
        C.sentence("of like ones the first (load by load the lesser WAGON, none last)");
        due("of two and two", Checks.loads(x, 1, 0, 0, 2), 3);
        int[] carriers = {1, 0, -1, 2};
        for (int i = 0; i < 4; i++) {
            due("load(" + i + ")", x.load(i), carriers[i]);
        }
    }

    private static void crossings() {
        C.sentence("of loops from x to y");
        LongTrain x = C.on("slope 0 99;loop 10 5;loop 90 9;");
        due("a loop at x", x.cross(5, 5, 10, 80, 0), 0);
        due("behind it", x.cross(5, 5, 11, 80, 0), -1);
        due("a loop at y", x.cross(5, 5, 20, 90, 0), 1);
        due("ahead of it", x.cross(5, 5, 20, 89, 0), -1);
        C.sentence("no shorter than the shorter train (of like long ones the first one)");
        due("as LONG", x.cross(5, 400, 0, 50, 0), 0);
        due("1 longer", x.cross(6, 400, 0, 50, 0), -1);
        due("as LONG, the other one", x.cross(400, 5, 0, 50, 0), 0);
        due("1 longer, the other one", x.cross(400, 6, 0, 50, 0), -1);
        due("like ones: the first goes in", x.cross(5, 5, 0, 20, 1), 15);
        due("the other one's way", x.cross(5, 5, 0, 26, 1), 16);
        due("the other one is shorter by 1", x.cross(5, 4, 0, 26, 1), 20);
        due("the first is", x.cross(4, 5, 0, 26, 1), 16);
        C.sentence("the later counts; of like ones the first loop");
        due("the way of the shorter and its LONG", x.cross(4, 5, 0, 20, 1), 14);
        due("just the other one's way", x.cross(4, 5, 0, 24, 1), 14);
        due("1 more of it", x.cross(4, 5, 0, 25, 1), 15);
        due("the way from x", x.cross(4, 5, 7, 12, 1), 7);
        due("the way from x alone", x.cross(5, 4, 3, 10, 1), 7);
        due("like ones", C.on("slope 0 99;loop 30 9;loop 27 9;").cross(3, 9, 0, 60, 0), 0);
        due("minutes", C.on("slope 0 99;loop 30 9;loop 27 9;").cross(3, 9, 0, 60, 1), 33);
        due("like ones, told the other way", C.on("slope 0 99;loop 27 9;loop 30 9;").cross(3, 9, 0, 60, 0), 0);
        due("1 sooner", C.on("slope 0 99;loop 30 9;loop 28 9;").cross(3, 9, 0, 60, 0), 1);
        C.sentence("not as told (LONG 1 to 400, UNITS of the LINE, x below y), another what");
        due("LONG 1", x.cross(1, 1, 0, 98, 0), 0);
        due("LONG 400", x.cross(400, 400, 0, 98, 0), -1);
        due("LONG 400 and 9", x.cross(400, 9, 0, 98, 0), 1);
        due("LONG 9 and 400", x.cross(9, 400, 0, 98, 1), 99);
        due("x just below y", x.cross(1, 1, 89, 90, 0), 1);
        int[][] wrong = {{0, 1, 0, 98}, {1, 0, 0, 98}, {401, 1, 0, 98}, {1, 401, 0, 98}, {1, 1, -1, 98}, {1, 1, 0, 99},
            {1, 1, 90, 90}, {1, 1, 91, 90}, {LOW, 1, 0, 98}, {1, HIGH, 0, 98}, {1, 1, LOW, 98}, {1, 1, 0, HIGH}};
        for (int[] w : wrong) {
            due("cross 0 of " + Arrays.toString(w), x.cross(w[0], w[1], w[2], w[3], 0), -1);
            due("cross 1 of " + Arrays.toString(w), x.cross(w[0], w[1], w[2], w[3], 1), -1);
        }
        for (int what : new int[] {-1, 2, LOW, HIGH}) {
            due("what " + what, x.cross(1, 1, 0, 98, what), -1);
        }
        due("there is none", C.on("slope 0 99;").cross(1, 1, 0, 98, 0), -1);
        due("minutes without one", C.on("slope 0 99;").cross(1, 1, 0, 98, 1), -1);
    }

    private static void rings() {
        C.sentence("rounds ahead of the one in which both together would be longer than the RING (0, if they are)");
        LongTrain x = C.on("wagon a 3 1 1;wagon b 1 1 1;wagon c 9 1 1;");
        int[] rounds = {0, 0, 0, 0, 1, 1, 1, 2};
        for (int units = 9; units <= 16; units++) {
            due("10 UNITS of trains on " + units, x.ring(units, 4, 6, 0), rounds[units - 9]);
        }
        due("a UNIT a round", x.ring(9999, 1, 1, 1), 9997);
        C.sentence("RING of so many UNITS (1 to 9999), LONG a, b (1 to 999)");
        due("ring(1, 1, 1, 0)", x.ring(1, 1, 1, 0), 0);
        due("ring(2, 1, 1, 0)", x.ring(2, 1, 1, 1), 0);
        due("ring(3, 1, 1, 0)", x.ring(3, 1, 1, 1), 1);
        due("ring(9999, 999, 999, 2)", x.ring(9999, 999, 999, 2), 889);
        int[][] wrong = {{0, 1, 1, 0}, {10000, 1, 1, 0}, {99, 0, 1, 0}, {99, 1, 0, 0}, {99, 1000, 1, 0}, {99, 1, 1000, 0},
            {99, 1, 1, -1}, {99, 1, 1, 3}, {LOW, 1, 1, 0}, {HIGH, 1, 1, 0}, {99, LOW, 1, 0}, {99, 1, HIGH, 0}, {99, 1, 1, LOW},
            {99, 1, 1, HIGH}};
        C.sentence("NONE: not as told, no such KIND");
        for (int[] w : wrong) {
            due("ring" + Arrays.toString(w), x.ring(w[0], w[1], w[2], w[3]), -1);
        }
        due("no KIND at all", new LongTrain().ring(99, 1, 1, 0), -1);
    }

    public static void main(String[] args) {
        frees();
        strains();
        spans();
        climbs();
        sands();
        helps();
        lives();
        longests();
        platforms();
        cooks();
        loads();
        crossings();
        rings();
        C.close("FreeBoundsTest");
    }
}
