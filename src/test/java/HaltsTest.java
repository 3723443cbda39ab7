/** Promises 24 to 31: platform, cook, back, room, loads, load, cross, ring. */
public final class HaltsTest {
    private static final Checks C = new Checks();

    private static void platforms() {
        LongTrain x = C.on("slope 0 30;halt g 0 6;halt h 8 5;halt k 9 6;halt m 20 4;halt n 22 99;wagon a 2 1 99;"
                + "wagon b 1 1 99;adds h b;adds m a;train a b a;");
        // UNITS behind AT: a 2, b 1, a 2, from 9 on b 1, from 21 on a 2
        int[] bits = {7, 3, 7, 3, 31};
        int[] rooms = {6, 6, 7, 7, 9};
        for (int h = 0; h < 5; h++) {
            C.due("platform(" + h + ")", x.platform(h), bits[h]);
            C.due("room(" + h + ")", x.room(h), rooms[h]);
        }
        x.go(29, 0);
        C.due("by the TRAIN at first", x.platform(0), 7);
        C.due("platform(5)", x.platform(5), -1);
        C.due("platform(-1)", x.platform(-1), -1);
        C.due("room(5)", x.room(5), -1);
        C.due("room(-1)", x.room(-1), -1);
        C.due("room of a HALT far on, asked alone", x.room(4), 9);
        C.due("and of one ahead of it", x.room(0), 6);
        LongTrain y = C.on("slope 0 9;halt h 5 9;wagon a 1 1 1;adds h a;");
        C.due("no WAGONS at it", y.platform(0), 0);
        C.due("no room needed", y.room(0), 0);
        C.due("LONG 1 is for the engine", C.on("slope 0 9;halt h 5 1;wagon a 1 1 1;train a;").platform(0), 0);
        C.due("LONG 2 is for one more", C.on("slope 0 9;halt h 5 2;wagon a 1 1 1;train a a;").platform(0), 1);
    }

    private static void cooks() {
        // half of 30: the coupling of WAGON 1 is closed while its UNIT is 3 or 4, at HEADS 6 and 7
        LongTrain x = C.on("slope 0 3;slope 9 2;slope 0 10;wagon a 2 10 30;train a a;walk 1;");
        C.due("cook(0, 1, 4)", x.cook(0, 1, 4), 2);
        C.due("he waits at the coupling", x.cook(0, 1, 5), 4);
        C.due("he comes to it while it is closed", x.cook(0, 1, 6), 3);
        C.due("cook(0, 1, 7)", x.cook(0, 1, 7), 2);
        C.due("back(0, 1, 5)", x.back(0, 1, 5), 2);
        C.due("he waits ahead of his first step", x.back(0, 1, 6), 4);
        C.due("back(0, 1, 8)", x.back(0, 1, 8), 2);
        C.due("the minute at the last UNIT is one", x.cook(0, 1, 13), 2);
        C.due("and the last one", x.cook(0, 1, 14), -1);
        C.due("back at the end", x.back(0, 1, 13), 2);
        C.due("back at the last UNIT", x.back(0, 1, 14), -1);
        C.due("nowhere to go", x.cook(1, 1, 14), 0);
        C.due("nowhere to go back", x.back(1, 1, 14), 0);
        C.due("nor from the first WAGON", x.cook(0, 0, 0), 0);
        C.due("nor back to it", x.back(0, 0, 0), 0);
        LongTrain v = C.on("slope 0 9;halt h 2 9;wagon a 2 10 30;adds h a;train a a;walk 1;");
        C.due("past ahead of what comes on", v.cook(0, 1, 0), 2);
        C.due("what comes on at 2 closes it", v.cook(0, 1, 1), -1);
        C.due("past it back ahead of that", v.back(0, 1, 1), 2);
        C.due("closed back", v.back(0, 1, 2), -1);
        // 9 UNITS a minute, three couplings of 1, 2 and 3 UNITS behind one another
        LongTrain y = C.on("slope 0 9;halt h 2 9;wagon a 1 10 20;wagon b 2 10 60;wagon c 3 10 41;train a b c;adds h a;walk 9;");
        C.due("c's coupling bears 20 of 20 from 2 on", y.cook(0, 2, 2), 1);
        C.due("a's that came on bears 10 of 10", y.cook(0, 3, 2), 1);
        C.due("back over all", y.back(0, 3, 2), 1);
        C.due("WAGON 3 is not there at 1", y.cook(0, 3, 1), -1);
        C.due("WAGON 2 is", y.cook(0, 2, 1), 1);
        LongTrain z = C.on("slope 0 9;wagon a 1 10 19;train a a;");
        C.due("10 is more than half of 19, cut", z.cook(0, 1, 0), -1);
        C.due("back neither", z.back(0, 1, 0), -1);
        LongTrain w = C.on("slope 0 30;wagon a 3 1 99;train a a a;walk 2;");
        C.due("6 UNITS by 2", w.cook(0, 2, 0), 3);
        C.due("3 UNITS by 2", w.cook(1, 2, 0), 2);
        C.due("6 UNITS back", w.back(0, 2, 0), 3);
        int[][] wrong = {{1, 0, 0}, {-1, 0, 0}, {0, 3, 0}, {0, 1, -1}, {0, 1, 30}, {3, 3, 0},
            {0, Integer.MAX_VALUE, 0}, {Integer.MIN_VALUE, 0, 0}};
        for (int[] t : wrong) {
            C.due("cook(" + t[0] + ", " + t[1] + ", " + t[2] + ")", w.cook(t[0], t[1], t[2]), -1);
            C.due("back(" + t[0] + ", " + t[1] + ", " + t[2] + ")", w.back(t[0], t[1], t[2]), -1);
        }
    }

    /** Going past a COUPLING takes none of his UNITS, and he stays at it, not on the UNIT on his side. */
    private static void cooksAtCouplings() {
        // COUPLING 1 is closed at HEADS 6 to 9, COUPLING 2 at 8 and 9
        String row = "slope 0 3;slope 9 2;slope 0 10;wagon a 2 10 60;train a a a;";
        LongTrain x = C.on(row + "walk 2;");
        C.due("2 UNITS to a closed one, 2 to the next", x.cook(0, 2, 9), 2);
        C.due("both at once, none left", x.cook(0, 2, 10), 2);
        C.due("past the first one at the last moment", x.cook(0, 2, 5), 2);
        C.due("a moment too late", x.cook(0, 2, 6), 5);
        C.due("he comes to 2 at 7, its last moment", x.cook(1, 2, 7), 1);
        C.due("he comes to 2 at 8", x.cook(1, 2, 8), 3);
        C.due("past both back in the minute ahead of the closing", x.back(0, 2, 5), 2);
        C.due("past 2 at once, then at 1", x.back(0, 2, 6), 5);
        C.due("to the foremost UNIT of 1", x.back(1, 2, 7), 1);
        C.due("2 is closed back", x.back(1, 2, 8), 3);
        LongTrain y = C.on(row + "walk 1;");
        C.due("4 UNITS", y.cook(0, 2, 10), 4);
        C.due("4 UNITS back", y.back(0, 2, 10), 4);
        C.due("UNITS left are lost at a closed one", C.on(row + "walk 9;").cook(0, 2, 9), 2);
        C.due("all in one minute", C.on(row + "walk 4;").cook(0, 2, 10), 1);
        C.due("all back in one minute", C.on(row + "walk 4;").back(0, 2, 10), 1);
        C.due("one UNIT too many", C.on(row + "walk 3;").back(0, 2, 10), 2);
        LongTrain z = C.on("slope 0 10;slope 5 5;slope - 3 5;slope 0 10;halt h 8 4;halt k 22 20;loop 5 3;"
            + "loop 20 9;wagon a 2 10 100;wagon b 1 20 300;adds h b;engine 100 10;rub 1;sand 50;walk 2;train a a;");
        C.due("five minutes at COUPLING 1", z.cook(0, 2, 15), 6);
    }

    private static void loaded(LongTrain x, int[] halts, int... due) {
        int most = 0;
        for (int w : due) {
            most += w >= 0 ? 1 : 0;
        }
        C.due("loads() of " + java.util.Arrays.toString(halts), Checks.loads(x, halts), most);
        for (int i = -1; i < 9; i++) {
            C.due("load(" + i + ")", x.load(i), i >= 0 && i < due.length ? due[i] : -1);
        }
    }

    private static void loads() {
        LongTrain x = C.on("slope 0 30;halt a 1 1;halt b 2 2;halt c 3 3;halt d 4 4;halt e 5 99;wagon k 1 1 99;"
                + "adds a k;adds b k;train k k k k;");
        C.due("load(0) ahead of any", x.load(0), -1);
        loaded(x, new int[] {0}, -1);
        loaded(x, new int[] {1}, 0);
        loaded(x, new int[] {4, 1}, 1, 0);
        loaded(x, new int[] {4, 4, 2, 1}, 2, 3, 1, 0);
        loaded(x, new int[] {1, 1, 2, 2, 2}, 0, -1, 1, -1, -1);
        loaded(x, new int[] {4, 0, 4, 4, 4, 4}, 0, -1, 1, 2, 3, -1);
        loaded(x, new int[] {4, 4, 4, 4, 4, 1, 2, 3}, 0, 1, 2, 3, -1, -1, -1, -1);
        loaded(C.on("slope 0 30;halt a 20 99;wagon k 1 1 99;train k k k k k k k k;"), new int[8], 0, 1, 2, 3, 4, 5, 6, 7);
        loaded(C.on("slope 0 30;halt a 20 8;halt b 25 9;wagon k 1 1 99;train k k k k k k k k;"),
                new int[] {1, 0, 0, 0, 0, 0, 0, 0}, 7, 0, 1, 2, 3, 4, 5, 6);
        loaded(x, new int[] {3, 2, 2, 4}, 2, 0, 1, 3);
        C.due("the tape is empty then", x.count(10), 0);
        C.due("no bytes", Checks.loads(x), -1);
        C.due("nine", Checks.loads(x, 1, 1, 1, 1, 1, 1, 1, 1, 1), -1);
        C.due("no such HALT", Checks.loads(x, 1, 5), -1);
        C.due("no such HALT", Checks.loads(x, 255), -1);
        C.due("the tape is empty then too", x.count(10), 0);
        C.due("load(0) stays", x.load(0), 2);
        Checks.line(x, "slope 0 9;halt a 5 9;");
        C.due("load(0) stays on another LINE", x.load(0), 2);
        loaded(x, new int[] {0, 0}, -1, -1);
    }

    private static void crossings() {
        LongTrain x = C.on("slope 0 99;loop 50 10;loop 20 10;loop 80 10;loop 0 3;loop 98 30;");
        C.due("cross(5, 9, 0, 98, 0)", x.cross(5, 9, 0, 98, 0), 0);
        C.due("the shorter needs 50 and 5", x.cross(5, 9, 0, 98, 1), 55);
        C.due("the other one is shorter", x.cross(9, 5, 0, 98, 1), 53);
        C.due("like ones: the first goes in", x.cross(8, 8, 0, 98, 1), 58);
        C.due("and the other one waits for nothing", x.cross(8, 8, 40, 90, 1), 40);
        C.due("the longer one needs its way alone", x.cross(9, 5, 30, 60, 1), 20);
        C.due("too long for all but one", x.cross(11, 12, 0, 98, 0), 4);
        C.due("minutes", x.cross(11, 12, 0, 98, 1), 109);
        C.due("too long for all", x.cross(31, 31, 0, 98, 0), -1);
        C.due("minutes", x.cross(31, 31, 0, 98, 1), -1);
        C.due("a loop at x", x.cross(3, 4, 0, 10, 0), 3);
        C.due("minutes", x.cross(3, 4, 0, 10, 1), 10);
        C.due("a loop at y", x.cross(3, 4, 60, 80, 1), 23);
        C.due("no loop between", x.cross(3, 4, 51, 79, 0), -1);
        // 20 and 80 are alike for LONG 10 from 0 to 90: 70 and 80 + 10; 50: 60
        C.due("of like ones the first loop", x.cross(10, 400, 20, 90, 0), 0);
        LongTrain y = C.on("slope 0 99;loop 40 9;loop 60 9;");
        C.due("like late: 60", y.cross(400, 1, 0, 99 - 1, 1), 59);
        C.due("of like ones the first", C.on("slope 0 99;loop 61 9;loop 40 9;").cross(1, 1, 0, 98, 0), 1);
        C.due("of like ones the first", C.on("slope 0 99;loop 60 9;loop 38 9;").cross(1, 1, 1, 98, 0), 0);
        int[][] wrong = {{0, 1, 0, 9, 0}, {1, 0, 0, 9, 0}, {401, 1, 0, 9, 0}, {1, 401, 0, 9, 0}, {1, 1, -1, 9, 0},
            {1, 1, 0, 99, 0}, {1, 1, 50, 50, 0}, {1, 1, 60, 50, 0}, {1, 1, 0, 98, 2}, {1, 1, 0, 98, -1}};
        for (int[] w : wrong) {
            C.due("cross" + java.util.Arrays.toString(w), x.cross(w[0], w[1], w[2], w[3], w[4]), -1);
        }
    }

    private static void rings() {
        LongTrain x = C.on("wagon a 2 1 1;wagon b 9 1 1;");
        C.due("ring(100, 30, 40, 0)", x.ring(100, 30, 40, 0), 15);
        C.due("ring(101, 30, 40, 0)", x.ring(101, 30, 40, 0), 15);
        C.due("ring(70, 30, 40, 0)", x.ring(70, 30, 40, 0), 0);
        C.due("ring(71, 30, 40, 0)", x.ring(71, 30, 40, 0), 0);
        C.due("ring(72, 30, 40, 0)", x.ring(72, 30, 40, 0), 1);
        C.due("ring(69, 30, 40, 0)", x.ring(69, 30, 40, 0), 0);
        C.due("ring(1, 999, 999, 0)", x.ring(1, 999, 999, 0), 0);
        C.due("ring(9999, 1, 1, 1)", x.ring(9999, 1, 1, 1), 1110);
        C.due("by one UNIT a round", C.on("wagon a 1 1 1;").ring(10, 3, 4, 0), 3);
        int[][] wrong = {{0, 1, 1, 0}, {10000, 1, 1, 0}, {10, 0, 1, 0}, {10, 1, 0, 0}, {10, 1000, 1, 0}, {10, 1, 1000, 0},
            {10, 1, 1, 2}, {10, 1, 1, -1}};
        for (int[] w : wrong) {
            C.due("ring" + java.util.Arrays.toString(w), x.ring(w[0], w[1], w[2], w[3]), -1);
        }
    }

    public static void main(String[] args) {
        platforms();
        cooks();
        cooksAtCouplings();
        loads();
        crossings();
        rings();
        C.close("HaltsTest");
    }
}
