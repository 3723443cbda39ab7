import java.util.ArrayList;
import java.util.List;
import java.util.NoSuchElementException;
import java.util.Random;

/** Random runs of calls (the same ones each time) on LongTrain and on Model: every answer alike. */
public final class ModelTest {
    private static final int RUNS = 1500;
    private final Checks c = new Checks();
    private final List<String> done = new ArrayList<>();
    private int told;
    private Random dice;
    private LongTrain x;
    private Model m;
    private int calls;

    private interface Call {
        int ask();
    }

    private static long answer(Call call) {
        try {
            return call.ask();
        } catch (NoSuchElementException e) {
            return Long.MIN_VALUE;
        }
    }

    private void same(String name, Call real, Call model) {
        long got = answer(real);
        long want = answer(model);
        done.add(name + " = " + want);
        calls++;
        if (got != want && told < 5) {
            told++;
            System.out.println(String.join("\n", done.subList(Math.max(0, done.size() - 12), done.size())));
        }
        c.due(name, got, want);
    }

    private static int bit(boolean b) {
        return b ? 1 : 0;
    }

    private int pick(int least, int most) {
        return least + dice.nextInt(most - least + 1);
    }

    /** Mostly from least to most, now and then one past either. */
    private int near(int least, int most) {
        return dice.nextInt(12) == 0 ? (dice.nextBoolean() ? least - 1 : most + 1) : pick(least, Math.max(least, most));
    }

    // ---- texts

    private String spoil(String text) {
        if (dice.nextInt(3) > 0 || text.isEmpty()) {
            return text;
        }
        int at = dice.nextInt(text.length());
        switch (dice.nextInt(5)) {
            case 0: return text.substring(0, at);
            case 1: return text.substring(0, at) + text.substring(at + 1);
            case 2: return text.substring(0, at) + "; -.09az\n \t".charAt(dice.nextInt(11)) + text.substring(at);
            case 3: {
                int to = at + dice.nextInt(text.length() - at);
                return text.substring(0, to) + text.substring(at);
            }
            default: return text.substring(0, at) + (char) dice.nextInt(256) + text.substring(at + 1);
        }
    }

    private String lineText() {
        StringBuilder s = new StringBuilder();
        int units = 0;
        for (int i = pick(1, 6); i > 0; i--) {
            int n = pick(1, 15);
            units += n;
            s.append("slope ").append(dice.nextInt(3) == 0 ? "-" : "").append(pick(0, pick(0, 9)));
            s.append(' ').append(n).append(';');
        }
        int kinds = pick(1, 4);
        int strongest = pick(0, 2) == 0 ? 999 : pick(20, 400);
        for (int k = 0; k < kinds; k++) {
            s.append("wagon k").append((char) ('a' + k)).append(' ').append(pick(1, pick(1, 9)));
            s.append(' ').append(pick(1, 12)).append(' ').append(pick(strongest / 4 + 1, strongest)).append(';');
        }
        int at = pick(0, 3);
        int halts = pick(0, 7);
        for (int h = 0; h < halts && at < units; h++) {
            s.append("halt h").append((char) ('a' + h)).append(' ').append(at).append(' ').append(pick(1, 30)).append(';');
            if (dice.nextInt(6) > 0) {
                s.append("adds h").append((char) ('a' + h)).append(" k").append((char) ('a' + dice.nextInt(kinds))).append(';');
            }
            at += pick(1, 8);
        }
        for (int l = pick(0, 4); l > 0; l--) {
            s.append("loop ").append(l * units / 5).append(' ').append(pick(1, 20)).append(";\n");
        }
        String[] more = {"engine " + pick(1, 400) + " " + pick(1, 30) + ";", "rub " + pick(0, pick(0, 9)) + ";",
            "sand " + pick(0, 99) + ";", "wear " + pick(1, pick(1, 6)) + ";", "walk " + pick(1, 9) + ";"};
        for (String row : more) {
            s.append(dice.nextInt(3) > 0 ? row : "");
        }
        int wagons = pick(0, dice.nextInt(5) == 0 ? 8 : 4);
        for (int i = 0; i < wagons; i++) {
            s.append(i == 0 ? "train k" : " k").append((char) ('a' + dice.nextInt(kinds)));
        }
        return s.append(wagons > 0 ? ";" : "").toString();
    }

    private String planText() {
        StringBuilder s = new StringBuilder();
        for (int i = dice.nextInt(20) == 0 ? pick(28, 32) : pick(0, 8); i > 0; i--) {
            switch (dice.nextInt(7)) {
                case 0: s.append("go ").append(pick(1, 12)).append(';'); break;
                case 1: s.append("sand ").append(pick(1, 9)).append(';'); break;
                case 2:
                case 3: s.append("help ").append(pick(0, 3)).append(' ').append(pick(1, 200)).append(';'); break;
                case 4: s.append("off;"); break;
                case 5: s.append(dice.nextInt(3) > 0 ? "go 2;" : "cut " + pick(0, 6) + ";"); break;
                default: s.append(" rest ;\n"); break;
            }
        }
        return s.toString();
    }

    private void feed(String text) {
        for (int i = 0; i < text.length(); i += 20) {
            int[] n = new int[5];
            for (int j = i; j < i + 20; j++) {
                n[(j - i) / 4] = n[(j - i) / 4] << 8 | (j < text.length() ? text.charAt(j) : 0);
            }
            same("feed", () -> x.feed(n[0], n[1], n[2], n[3], n[4]), () -> m.feed(n));
        }
        int size = text.length();
        same("end " + size, () -> bit(x.end(size)), () -> bit(m.end(size)));
    }

    private void newLine(String text) {
        feed(text);
        same("line '" + text + "'", () -> x.line(), () -> m.line());
        same("fault", () -> x.fault(), () -> m.fault);
    }

    private void newPlan() {
        String text = spoil(planText());
        feed(text);
        same("plan '" + text + "'", () -> x.plan(), () -> m.plan());
        same("fault", () -> x.fault(), () -> m.fault);
    }

    // ---- calls

    private void change() {
        int k = near(0, 1);
        switch (dice.nextInt(10)) {
            case 0:
                newLine(spoil(lineText()));
                break;
            case 1:
                newPlan();
                break;
            case 2:
                same("image " + k, () -> bit(x.image(k)), () -> bit(m.image(k)));
                break;
            case 3:
                same("restore " + k, () -> bit(x.restore(k)), () -> bit(m.restore(k)));
                break;
            case 4:
            case 5:
                same("judge " + k, () -> x.judge(k), () -> m.judge(k));
                for (int what = -1; what <= 6; what++) {
                    int w = what;
                    same("judged " + w, () -> x.judged(w), () -> m.judged(w));
                }
                break;
            default:
                int moves = dice.nextInt(10) == 0 ? near(0, 400) : pick(0, 9);
                same("go " + moves + " " + k, () -> x.go(moves, k), () -> m.go(moves, k));
                break;
        }
    }

    private void askLine() {
        int u = m.on.units();
        int a = near(0, u - 1);
        int b = near(Math.max(a, 0), u - 1);
        int w = near(0, 2);
        int h = near(0, m.on.halts.size() - 1);
        int k = near(0, m.on.kinds.size() - 1);
        int l = near(0, m.on.loops.size() - 1);
        int n = pick(1, 400);
        int n2 = pick(1, 12);
        int n3 = near(1, 20);
        same("grade " + a, () -> x.grade(a), () -> m.grade(a));
        same("halt " + h + " " + w, () -> x.halt(h, w), () -> m.halt(h, w));
        same("kind " + k + " " + w, () -> x.kind(k, w), () -> m.kind(k, w));
        same("loop " + l + " " + w, () -> x.loop(l, w), () -> m.loop(l, w));
        same("count " + n2, () -> x.count(n2), () -> m.count(n2));
        same("platform " + h, () -> x.platform(h), () -> m.platform(h));
        same("room " + h, () -> x.room(h), () -> m.room(h));
        same("cross", () -> x.cross(n, n2, a, b, w), () -> m.cross(n, n2, a, b, w));
        same("cross", () -> x.cross(n2, n2, a, b, w), () -> m.cross(n2, n2, a, b, w));
        same("cross", () -> x.cross(n3, n2, a, b, w), () -> m.cross(n3, n2, a, b, w));
        same("ring", () -> x.ring(n, n2, n2, k), () -> m.ring(n, n2, n2, k));
        StringBuilder halts = new StringBuilder();
        for (int i = near(1, 8); i > 0; i--) {
            halts.append((char) (dice.nextInt(30) == 0 ? pick(0, 255) : pick(0, Math.max(0, m.on.halts.size() - 1))));
        }
        feed(halts.toString());
        same("loads", () -> x.loads(), () -> m.loads());
        for (int i = -1; i <= 8; i++) {
            int j = i;
            same("load " + j, () -> x.load(j), () -> m.load(j));
        }
    }

    private void askTrain() {
        int w = near(0, 7);
        int i = near(0, m.train.wagons.size() - 1);
        int k = near(0, m.train.halves.size() - 1);
        same("train " + w, () -> x.train(w), () -> m.train(w));
        for (int what = -1; what <= 5; what++) {
            int t = what;
            same("wagon " + i + " " + t, () -> x.wagon(i, t), () -> m.wagon(i, t));
            same("half " + k + " " + t, () -> x.half(k, t), () -> m.half(k, t));
        }
    }

    private void askFree() {
        int u = m.on.units();
        int a = near(0, u - 1);
        int b = near(Math.max(a, 0), u - 1);
        int w = near(0, 2);
        int e = dice.nextInt(9) == 0 ? near(0, 99999) : pick(0, pick(1, 900));
        int p = dice.nextInt(9) == 0 ? near(1, 999) : pick(1, 300);
        int i = near(0, 2);
        int j = near(Math.max(0, i), m.on.first.size() + 1);
        same("strain " + a + " " + b + " " + w, () -> x.strain(a, b, w), () -> m.borne(a, b, w, 1));
        same("squeeze " + a + " " + b + " " + w, () -> x.squeeze(a, b, w), () -> m.borne(a, b, w, -1));
        int v = dice.nextBoolean() ? a + pick(-8, 8) : b;
        same("span " + a + " " + v + " " + w, () -> x.span(a, v, w), () -> m.span(a, v, w));
        same("climb " + a + " " + b + " " + e, () -> x.climb(a, b, e), () -> m.climb(a, b, e));
        same("needed " + a + " " + b, () -> x.needed(a, b), () -> m.needed(a, b));
        same("sanded " + a + " " + b + " " + e, () -> x.sanded(a, b, e), () -> m.sanded(a, b, e));
        same("helped " + a + " " + b + " " + e + " " + p, () -> x.helped(a, b, e, p), () -> m.helped(a, b, e, p));
        same("cook " + i + " " + j + " " + a, () -> x.cook(i, j, a), () -> m.walk(i, j, a, false));
        same("back " + i + " " + j + " " + a, () -> x.back(i, j, a), () -> m.walk(i, j, a, true));
    }

    private void askLives() {
        int rule = near(0, 2);
        int seed = dice.nextInt();
        int unit = near(0, m.on.units() - 1);
        int n = dice.nextInt(9) == 0 ? near(1, 200) : pick(1, 20);
        same("lives " + rule, () -> x.lives(rule), () -> m.lives(rule));
        same("bet " + seed, () -> x.bet(seed), () -> m.bet(seed));
        same("bets " + n + " " + seed + " " + unit, () -> x.bets(n, seed, unit), () -> m.bets(n, seed, unit));
        if (dice.nextInt(4) == 0) {
            same("longest", () -> x.longest(), () -> m.longest());
        }
        for (int i = -1; i <= 4; i++) {
            int j = i;
            same("placed " + j, () -> x.placed(j), () -> m.placed(j));
        }
    }

    private void run(int number) {
        dice = new Random(number);
        x = new LongTrain();
        m = new Model();
        calls = 0;
        done.clear();
        done.add("run " + number);
        if (number % 10 > 0) {
            newLine(lineText());
        }
        while (calls < 440) {
            switch (dice.nextInt(8)) {
                case 0: askLine(); break;
                case 1: askTrain(); break;
                case 2:
                case 3: askFree(); break;
                case 4: askLives(); break;
                default: change(); break;
            }
        }
    }

    public static void main(String[] args) {
        ModelTest t = new ModelTest();
        for (int i = 0; i < RUNS; i++) {
            t.run(i);
        }
        t.c.close("ModelTest");
    }
}
