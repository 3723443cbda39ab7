import java.util.function.ToIntFunction;

/**
 * Promises 4, 5 and 32, every bound that the document names for a text: the last that is taken and
 * the first that is refused, sentence by sentence.
 */
public final class TextBoundsTest {
    private static final Checks C = new Checks();
    private static final String[] WORDS = {"slope", "halt", "loop", "wagon", "adds", "engine", "rub", "sand", "wear", "walk",
        "train", "go", "help", "off", "cut", "rest"};
    private static final String KIND = "wagon a 1 1 1;";
    private static final String[] LINE = {"slope", "-", "9", "9", ";", "slope", "0", "9", ";", "halt", "h", "5", "9", ";",
        "loop", "7", "9", ";", "wagon", "a", "1", "2", "3", ";", "adds", "h", "a", ";", "engine", "9", "9", ";", "rub", "1",
        ";", "sand", "1", ";", "wear", "1", ";", "walk", "1", ";", "train", "a", "a", ";"};
    private static final String[] PLAN = {"go", "1", ";", "sand", "1", ";", "help", "0", "1", ";", "off", ";", "cut", "0", ";",
        "rest", ";"};

    private static void taken(String text, int rows) {
        LongTrain x = new LongTrain();
        C.due("line '" + text + "'", Checks.line(x, text), rows);
        C.due("fault() of '" + text + "'", x.fault(), 0);
    }

    private static void refused(String text, int place, int kind) {
        C.fault(false, text, place, kind);
    }

    private static void planTaken(String text, int rows) {
        LongTrain x = new LongTrain();
        C.due("plan '" + text + "'", Checks.plan(x, text), rows);
        C.due("fault() of '" + text + "'", x.fault(), 0);
        C.due("ROWS of '" + text + "'", x.count(9), rows);
    }

    private static void planRefused(String text, int place, int kind) {
        C.fault(true, text, place, kind);
    }

    private static String blanksTo(String text, int size) {
        return text + " ".repeat(size - text.length());
    }

    // ---- TOKENS

    private static void blanks() {
        C.sentence("with blanks (32, 10) between them or not");
        taken(" slope 0 1 ; ", 1);
        taken("\nslope\n0\n1\n;\n", 1);
        taken("slope 0 1;slope-1 1;slope - 1 1;", 3);
        for (int sign : new int[] {0, 9, 11, 12, 13, 31, 33, 127, 160, 255}) {
            refused("slope" + (char) sign + "0 1;", 5, 1);
            refused((char) sign + "slope 0 1;", 0, 1);
            refused("slope 0 1;" + (char) sign, 10, 1);
        }
        planTaken(" go\n1\n;", 1);
        planRefused("go\t1;", 2, 1);
    }

    private static void words() {
        C.sentence("WORDS: small letters, 1 to 7");
        taken("wagon a 1 1 1;wagon z 1 1 1;wagon azazaza 1 1 1;train azazaza a z;", 4);
        refused("wagon azazazaz 1 1 1;", 6, 1);
        refused("wagon azazaza 1 1 1;train azazazaz;", 26, 1);
        for (char sign : new char[] {'a' - 1, 'z' + 1, 'A', 'Z', '_', 225, 250}) {
            refused("wagon " + sign + " 1 1 1;", 6, 1);
            refused("wagon b" + sign + " 1 1 1;", 7, 1);
        }
        C.sentence("none of the WORDS is another one's beginning or end");
        for (String word : WORDS) {
            String text = word.substring(1) + "q";
            taken("wagon " + text.substring(0, Math.min(7, text.length())) + " 1 1 1;", 1);
            refused(word + "e", 0, 1);
            refused(word.substring(0, word.length() - 1), 0, 1);
            planRefused(word + "e", 0, 1);
            planRefused(word.substring(0, word.length() - 1), 0, 1);
        }
    }

    private static void digits() {
        C.sentence("NUMBERS: 1 to 3 digits");
        taken("slope 9 9;", 1);
        taken("slope 00 09;", 1);
        taken("slope 000 009;", 1);
        refused("slope 0000 9;", 6, 1);
        refused("slope 0 0009;", 8, 1);
        refused("slope 0 4294967297;", 8, 1);
        for (char sign : new char[] {'0' - 1, '9' + 1}) {
            refused("slope " + sign + " 1;", 6, 1);
            refused("slope 0 1" + sign + ";", 9, 1);
        }
        planTaken("go 001;", 1);
        planRefused("go 0001;", 3, 1);
        C.sentence("A WORD, NUMBER goes on as long as small letters and digits do");
        refused("slope0 1;", 0, 1);
        refused("slope 0a 1;", 6, 1);
        refused("slope 0 1a;", 8, 1);
        refused("wagon a1 1 1 1;", 6, 1);
        refused("wagon 1a 1 1 1;", 6, 1);
        refused("wagon a 1 1 1;train a1;", 20, 1);
        refused("wagon a 1 1 1;train a1a;", 20, 1);
        planRefused("go1;", 0, 1);
        planRefused("go 1a;", 3, 1);
        C.sentence("; - .");
        refused(".", 0, 1);
        refused("slope .", 6, 1);
        refused("slope 0 1.", 9, 1);
        refused("slope 0 1,", 9, 1);
        refused("slope 0 1:", 9, 1);
        refused("slope , 1 1;", 6, 1);
        refused("slope + 1 1;", 6, 1);
    }

    // ---- a LINE's ROWS

    /** A NUMBER of three digits at most between two texts; afterwards it is told as it stands. */
    private static void range(String ahead, int least, int most, String behind, ToIntFunction<LongTrain> told) {
        for (int n : new int[] {least, most}) {
            String text = ahead + n + behind;
            C.due("what is told by '" + text + "'", told.applyAsInt(C.on(text)), n);
        }
        refused(ahead + (least - 1) + behind, ahead.length(), least > 0 ? 2 : 1);
        refused(ahead + (most + 1) + behind, ahead.length(), most < 999 ? 2 : 1);
    }

    private static void slopes() {
        C.sentence("'slope' G N ([ '-' ] 0 to 9; 1 to 99 UNITS more of the LINE with that grade");
        C.due("grade 0", C.on("slope 0 1;").grade(0), 0);
        C.due("grade 9", C.on("slope 9 1;").grade(0), 9);
        refused("slope 10 1;", 6, 2);
        range("slope -", 0, 9, " 1;", x -> -x.grade(0));
        range("slope - ", 0, 9, " 1;slope 0 9;", x -> -x.grade(0));
        range("slope 0 ", 1, 99, ";", x -> x.count(0));
        range("slope 0 5;slope 0 ", 1, 99, ";", x -> x.count(0) - 5);
        refused("slope - - 1 1;", 8, 1);
        refused("slope 1 -1;", 8, 1);
        LongTrain x = C.on("slope 3 2;slope-4 1;");
        C.due("the last UNIT of the first", x.grade(1), 3);
        C.due("the first UNIT of the second", x.grade(2), -4);
        C.sentence("400 UNITS at most; a 401st UNIT (at N)");
        String full = "slope 1 99;".repeat(4);
        C.due("400 UNITS", C.on(full + "slope 2 4;").count(0), 400);
        C.due("UNIT 399", C.on(full + "slope 2 4;").grade(399), 2);
        refused(full + "slope 2 5;", 52, 4);
        refused(full + "slope 2 99;", 52, 4);
        refused(full + "slope 2 4;slope 0 1;", 62, 4);
        refused(full + "slope 2 4;slope 0 0;", 62, 2);
        C.sentence("20 slopes; a 21st slope (at the ROW's first WORD)");
        taken("slope 0 1;".repeat(20), 20);
        refused("slope 0 1;".repeat(21), 200, 4);
        refused("slope 0 1;".repeat(20) + "rub 1;slope", 206, 4);
        refused("slope 0 20;".repeat(20) + "slope 0 1;", 220, 4);
    }

    private static void halts() {
        C.sentence("'halt' NAME AT LONG (a UNIT told so far, behind the AT of the HALT ahead; 1 to 99)");
        refused("halt h 0 1;", 7, 2);
        refused("halt h 0 1;slope 0 9;", 7, 2);
        range("slope 0 1;halt h ", 0, 0, " 1;slope 0 9;", x -> x.halt(0, 0));
        range("slope 0 9;halt h ", 0, 8, " 1;slope 0 9;", x -> x.halt(0, 0));
        range("slope 0 99;slope 0 99;slope 0 99;slope 0 99;slope 0 4;halt h ", 0, 399, " 1;", x -> x.halt(0, 0));
        range("slope 0 9;halt h 4 1;halt k ", 5, 8, " 1;", x -> x.halt(1, 0));
        range("slope 0 9;halt h 0 1;halt k ", 1, 8, " 1;", x -> x.halt(1, 0));
        refused("slope 0 9;halt h 8 1;halt k 8 1;", 28, 2);
        refused("slope 0 9;halt h 8 1;halt k 9 1;", 28, 2);
        refused("slope 0 9;halt h 1 1;halt k 7 1;halt m 6 1;", 39, 2);
        range("slope 0 9;halt h 4 ", 1, 99, ";", x -> x.halt(0, 1));
        C.sentence("10 HALTS; an 11th HALT (at the ROW's first WORD)");
        StringBuilder text = new StringBuilder("slope 0 99;");
        for (int i = 0; i < 10; i++) {
            text.append("halt ").append((char) ('a' + i)).append(' ').append(i).append(" 1;");
        }
        taken(text.toString(), 11);
        C.due("HALT 9", C.on(text.toString()).halt(9, 0), 9);
        refused(text + "halt z 10 1;", text.length(), 4);
        refused(text + "halt a 9 0;", text.length(), 4);
        refused(text + "rub 1;halt", text.length() + 6, 4);
    }

    private static void loops() {
        C.sentence("'loop' AT LONG (a UNIT told so far, each once; 1 to 99)");
        refused("loop 0 1;slope 0 9;", 5, 2);
        range("slope 0 9;loop ", 0, 8, " 1;slope 0 9;", x -> x.loop(0, 0));
        range("slope 0 99;slope 0 99;slope 0 99;slope 0 99;slope 0 4;loop ", 0, 399, " 1;", x -> x.loop(0, 0));
        range("slope 0 9;loop 4 ", 1, 99, ";", x -> x.loop(0, 1));
        taken("slope 0 9;loop 4 1;loop 5 1;loop 3 1;", 4);
        refused("slope 0 9;loop 4 1;loop 4 1;", 24, 3);
        refused("slope 0 9;loop 4 1;loop 5 1;loop 3 1;loop 5 1;", 42, 3);
        refused("slope 0 9;loop 4 1;loop 5 1;loop 3 1;loop 4 0;", 42, 3);
        taken("slope 0 9;loop 4 1;halt h 4 1;", 3);
        C.sentence("8 loops; a ninth loop (at the ROW's first WORD)");
        StringBuilder text = new StringBuilder("slope 0 99;");
        for (int i = 0; i < 8; i++) {
            text.append("loop ").append(7 - i).append(" 1;");
        }
        taken(text.toString(), 9);
        C.due("loop 7", C.on(text.toString()).loop(7, 0), 0);
        refused(text + "loop 8 1;", text.length(), 4);
        refused(text + "loop 7 1;", text.length(), 4);
        refused(text + "rub 1;loop", text.length() + 6, 4);
    }

    private static void kinds() {
        C.sentence("'wagon' NAME LONG WEIGHT STRENGTH (1 to 9; 1 to 99; 1 to 999)");
        range("wagon a ", 1, 9, " 5 5;", x -> x.kind(0, 0));
        range("wagon a 5 ", 1, 99, " 5;", x -> x.kind(0, 1));
        range("wagon a 5 5 ", 1, 999, ";", x -> x.kind(0, 2));
        C.sentence("6 KINDS of wagons at most; a seventh KIND (at the ROW's first WORD)");
        StringBuilder text = new StringBuilder();
        for (int i = 0; i < 6; i++) {
            text.append("wagon ").append((char) ('a' + i)).append(" 1 1 ").append(i + 1).append(';');
        }
        taken(text.toString(), 6);
        C.due("KIND 5", C.on(text.toString()).kind(5, 2), 6);
        refused(text + "wagon z 1 1 1;", text.length(), 4);
        refused(text + "wagon a 1 1 1;", text.length(), 4);
        refused(text + "rub 1;wagon", text.length() + 6, 4);
        C.sentence("'adds' HALT KIND (each HALT once)");
        String two = "slope 0 9;halt h 1 1;halt k 2 1;wagon a 1 1 1;wagon b 1 1 1;";
        LongTrain x = C.on(two + "adds k b;");
        C.due("HALT 0 adds none", x.halt(0, 2), -1);
        C.due("HALT 1 adds KIND 1", x.halt(1, 2), 1);
        taken(two + "adds k a;adds h a;", 7);
        refused(two + "adds k a;adds k b;", two.length() + 14, 3);
        refused(two + "adds k a;adds h b;adds k", two.length() + 23, 3);
    }

    private static void others() {
        C.sentence("'engine' PULL WEIGHT (1 to 999; 1 to 99; 100 and 10 without)");
        range("engine ", 1, 999, " 5;", x -> x.count(4));
        range("engine 5 ", 1, 99, ";", x -> x.train(4));
        C.due("PULL without", C.on("slope 0 9;").count(4), 100);
        C.due("WEIGHT without", C.on("slope 0 9;").train(4), 10);
        C.sentence("'rub' N (0 to 9; 1 without)");
        range("rub ", 0, 9, ";", x -> x.count(5));
        C.due("without", C.on("slope 0 9;").count(5), 1);
        C.sentence("'sand' N (0 to 99; 10 without)");
        range("sand ", 0, 99, ";", x -> x.count(6));
        C.due("without", C.on("slope 0 9;").count(6), 10);
        C.sentence("'wear' N (1 to 99; 10 without)");
        range("wear ", 1, 99, ";", x -> x.count(7));
        C.due("without", C.on("slope 0 9;").count(7), 10);
        C.sentence("'walk' N (1 to 9; 2 without)");
        range("walk ", 1, 9, ";", x -> x.count(8));
        C.due("without", C.on("slope 0 9;").count(8), 2);
        C.sentence("'train' KIND { KIND } (8 at most); a ninth KIND of a train (at it)");
        refused(KIND + "train;", 19, 1);
        C.due("one", C.on(KIND + "train a;").train(1), 1);
        C.due("eight", C.on(KIND + "train a a a a a a a a;").train(1), 8);
        refused(KIND + "train a a a a a a a a a;", 36, 4);
        refused(KIND + "train a a a a a a a a a", 36, 4);
        refused(KIND + "train" + " a".repeat(20), 36, 4);
        C.due("none without", C.on(KIND).train(1), 0);
        C.sentence("engine, rub, sand, wear, walk, train once each; told again (at its WORD)");
        String[] rows = {"engine 1 1;", "rub 1;", "sand 1;", "wear 1;", "walk 1;", "train a;"};
        String all = KIND + String.join("", rows);
        taken(all, 7);
        for (String row : rows) {
            refused(all + row, all.length(), 3);
            refused(all + " " + row.substring(0, row.indexOf(' ')) + " -", all.length() + 1, 3);
            refused(KIND + row + row, KIND.length() + row.length(), 3);
        }
    }

    private static void names() {
        C.sentence("NAME: a WORD, none of those told here or in a PLAN");
        String both = "slope 0 9;halt h 1 1;wagon a 1 1 1;";
        for (String word : WORDS) {
            refused("slope 0 9;halt " + word + " 1 1;", 15, 1);
            refused("wagon " + word + " 1 1 1;", 6, 1);
            refused(both + "adds " + word + " a;", both.length() + 5, 1);
            refused(both + "adds h " + word + ";", both.length() + 7, 1);
            refused(both + "train " + word + ";", both.length() + 6, 1);
            refused(both + "train a " + word + ";", both.length() + 8, 1);
        }
        C.sentence("told once; 3 a NAME told twice, not told, or of another sort");
        taken(both + "halt hh 2 1;wagon aa 1 1 1;", 5);
        refused(both + "halt h 2 1;", both.length() + 5, 3);
        refused(both + "halt a 2 1;", both.length() + 5, 3);
        refused(both + "wagon a 1 1 1;", both.length() + 6, 3);
        refused(both + "wagon h 1 1 1;", both.length() + 6, 3);
        refused(both + "adds k a;", both.length() + 5, 3);
        refused(both + "adds a a;", both.length() + 5, 3);
        refused(both + "adds h b;", both.length() + 7, 3);
        refused(both + "adds h h;", both.length() + 7, 3);
        refused(both + "train b;", both.length() + 6, 3);
        refused(both + "train h;", both.length() + 6, 3);
        refused(both + "train a a b;", both.length() + 10, 3);
        refused("train a;wagon a 1 1 1;", 6, 3);
        refused("slope 0 9;wagon a 1 1 1;adds h a;halt h 1 1;", 29, 3);
        taken("wagon abcdefg 1 1 1;wagon abcdefh 1 1 1;wagon bbcdefg 1 1 1;train abcdefh;", 4);
    }

    // ---- FAULTS

    private static void order() {
        C.sentence("the first along the text");
        refused("rub 10;sand 100;", 4, 2);
        refused("rub 1;sand 100;rub 1;", 11, 2);
        refused("rub 1;rub 1;sand 100;", 6, 3);
        refused("rub 1;rub 10;", 6, 3);
        refused("wagon a 0 0 0;wagon a", 8, 2);
        refused("engine 0 0;?", 7, 2);
        refused("engine 1 1?", 10, 1);
        C.sentence("of one TOKEN the least");
        String eight = KIND + "slope 0 9;halt h 1 1;train a a a a a a a a ";
        refused(eight + "a;", eight.length(), 4);
        refused(eight + "b;", eight.length(), 3);
        refused(eight + "h;", eight.length(), 3);
        refused(eight + "rub;", eight.length(), 1);
        refused(eight + "1;", eight.length(), 1);
        refused(eight + "abcdefgh;", eight.length(), 1);
        refused("slope 0 99;".repeat(4) + "slope 0 100;", 52, 2);
        refused("slope 0 1;".repeat(20) + "slope0 1;", 200, 1);
        refused("rub 1;rub1;", 6, 1);
        planRefused("off;".repeat(30) + "rub 1;", 120, 1);
        planRefused("off;".repeat(30) + "1;", 120, 1);
    }

    private static String joined(String[] tokens, int size, String instead) {
        StringBuilder text = new StringBuilder();
        for (int i = 0; i < size; i++) {
            text.append(i > 0 ? " " : "").append(instead != null && i == size - 1 ? instead : tokens[i]);
        }
        return text.toString();
    }

    private static int rowsOf(String[] tokens, int size) {
        int rows = 0;
        for (int i = 0; i < size; i++) {
            rows += tokens[i].equals(";") ? 1 : 0;
        }
        return rows;
    }

    private static void cuts() {
        C.sentence("1 no TOKEN, or one that can't come (at it; the end: how many bytes there are");
        for (int size = 0; size <= LINE.length; size++) {
            String text = joined(LINE, size, null);
            if (size == 0 || LINE[size - 1].equals(";")) {
                taken(text, rowsOf(LINE, size));
                taken(text + " \n ", rowsOf(LINE, size));
            } else {
                refused(text, text.length(), 1);
                refused(text + " \n ", text.length() + 3, 1);
            }
        }
        for (int size = 0; size <= PLAN.length; size++) {
            String text = joined(PLAN, size, null);
            if (size == 0 || PLAN[size - 1].equals(";")) {
                planTaken(text, rowsOf(PLAN, size));
            } else {
                planRefused(text, text.length(), 1);
                planRefused(text + " \n ", text.length() + 3, 1);
            }
        }
        for (String no : new String[] {".", "1000", "abcdefgh", "a1", "A", "" + (char) 0}) {
            for (int size = 1; size <= LINE.length; size++) {
                refused(joined(LINE, size, no), joined(LINE, size - 1, null).length() + (size > 1 ? 1 : 0), 1);
            }
            for (int size = 1; size <= PLAN.length; size++) {
                planRefused(joined(PLAN, size, no), joined(PLAN, size - 1, null).length() + (size > 1 ? 1 : 0), 1);
            }
        }
    }

    private static void longLines() {
        C.sentence("A LINE is a text of at most 900 bytes; the most bytes told, if there are more and no FAULT is ahead");
        taken(blanksTo("rub 1;", 900), 1);
        taken(blanksTo("", 894) + "rub 1;", 1);
        taken(blanksTo("", 900), 0);
        refused(blanksTo("rub 1;", 901), 900, 1);
        refused(blanksTo("", 895) + "rub 1;", 900, 1);
        refused(blanksTo("", 901), 900, 1);
        refused(blanksTo("", 940), 900, 1);
        refused(blanksTo("rub 1", 900) + ";", 900, 1);
        refused(blanksTo("rub 1;", 900) + "?", 900, 1);
        refused(blanksTo("rub 1;", 900) + "rub 2;", 900, 1);
        C.sentence("no FAULT is ahead");
        refused(blanksTo("rub 10;", 940), 4, 2);
        refused(blanksTo("rub 1;", 899) + "? ", 899, 1);
        refused(blanksTo("rub 1;", 897) + "rub 1;", 897, 3);
        refused(blanksTo("slope 0 1;".repeat(20), 899) + "slope", 899, 4);
        C.sentence("TOKENS that begin ahead of it are read whole");
        refused(blanksTo("rub", 899) + "9;", 900, 1);
        refused(blanksTo("rub", 899) + "10;", 899, 2);
        refused(blanksTo("rub", 899) + "009;", 900, 1);
        refused(blanksTo("rub", 899) + "0009;", 899, 1);
        refused(blanksTo("wagon abcdefg 1 1 1;train", 899) + "abcdefg;", 900, 1);
        refused(blanksTo("wagon abcdefg 1 1 1;train", 899) + "abcdef;", 899, 3);
        refused(blanksTo("wagon a 1 1 1;train", 899) + "ab;", 899, 3);
        refused(blanksTo("wagon a 1 1 1;train", 900) + "ab;", 900, 1);
        refused(blanksTo("rub 1;", 899) + "rub 1;", 899, 3);
        refused(blanksTo("rub 1;", 899) + "rub1;", 899, 1);
        taken(blanksTo("rub 1;", 893) + "sand 5;", 2);
        refused(blanksTo("rub 1;", 894) + "sand 5;", 900, 1);
    }

    private static void plans() {
        C.sentence("A PLAN is a text of at most 400 bytes");
        planTaken("", 0);
        planTaken(blanksTo("off;", 400), 1);
        planTaken(blanksTo("", 396) + "off;", 1);
        planRefused(blanksTo("off;", 401), 400, 1);
        planRefused(blanksTo("", 397) + "off;", 400, 1);
        planRefused(blanksTo("off;", 940), 400, 1);
        planRefused(blanksTo("go 0;", 940), 3, 2);
        planRefused(blanksTo("go", 399) + "400;", 400, 1);
        planRefused(blanksTo("go", 399) + "401;", 399, 2);
        planRefused(blanksTo("go", 400) + "401;", 400, 1);
        planRefused(blanksTo("off;".repeat(30), 399) + "off;", 399, 4);
        planRefused(blanksTo("off;".repeat(30), 400) + "off;", 400, 1);
        C.sentence("30 ROWS at most; 4 (a 31st ROW, at its first WORD)");
        planTaken("rest;".repeat(30), 30);
        planRefused("rest;".repeat(31), 150, 4);
        planRefused("rest;".repeat(30) + " go 0", 151, 4);
        C.sentence("N 1 to 400, P 1 to 999, I 0 to 19");
        for (String word : new String[] {"go ", "sand "}) {
            planTaken(word + "1;" + word + "400;", 2);
            planRefused(word + "0;", word.length(), 2);
            planRefused(word + "401;", word.length(), 2);
        }
        planTaken("help 0 1;help 19 999;cut 0;cut 19;", 4);
        planRefused("help 20 1;", 5, 2);
        planRefused("help -1 1;", 5, 1);
        planRefused("help 0 0;", 7, 2);
        planRefused("help 0 1000;", 7, 1);
        planRefused("cut 20;", 4, 2);
        planRefused("cut -1;", 4, 1);
        C.sentence("a PLAN's ROWS are 'go', 'sand', 'help', 'off', 'cut', 'rest'");
        for (int i = 0; i < WORDS.length; i++) {
            if (i < 11 && !WORDS[i].equals("sand")) {
                planRefused(WORDS[i] + " 1 1;", 0, 1);
            } else if (i >= 11) {
                refused(WORDS[i] + " 1 1;", 0, 1);
            }
        }
        planRefused("off 1;", 4, 1);
        planRefused("rest 1;", 5, 1);
        planRefused("go 1 1;", 5, 1);
        planRefused("sand;", 4, 1);
        planRefused("help 1;", 6, 1);
        planRefused("help 1 1 1;", 9, 1);
        planRefused("cut 1 1;", 6, 1);
        planRefused("cut;", 3, 1);
        planRefused("go a;", 3, 1);
    }

    private static void faults() {
        C.sentence("The kind of the FAULT of the latest line() or plan(); 0 without one and ahead of any");
        LongTrain x = new LongTrain();
        C.due("ahead of any", x.fault(), 0);
        Checks.line(x, "rub 10;");
        C.due("of line()", x.fault(), 2);
        Checks.plan(x, "off");
        C.due("of plan()", x.fault(), 1);
        Checks.line(x, "rub 1;rub 1;");
        C.due("of line() again", x.fault(), 3);
        Checks.plan(x, "off;");
        C.due("of plan() without one", x.fault(), 0);
        Checks.plan(x, "off;".repeat(31));
        C.due("of plan() again", x.fault(), 4);
        Checks.line(x, "");
        C.due("of line() without one", x.fault(), 0);
        C.sentence("-1 less the place of a FAULT");
        C.due("place 0", Checks.line(x, "?"), -1);
        C.due("place 1", Checks.line(x, " ?"), -2);
        C.due("place 900", Checks.line(x, blanksTo("", 901)), -901);
        C.due("place 400 of a PLAN", Checks.plan(x, blanksTo("", 401)), -401);
    }

    public static void main(String[] args) {
        blanks();
        words();
        digits();
        slopes();
        halts();
        loops();
        kinds();
        others();
        names();
        order();
        cuts();
        longLines();
        plans();
        faults();
        C.close("TextBoundsTest");
    }
}
