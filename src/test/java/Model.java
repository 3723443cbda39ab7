import java.util.ArrayList;
import java.util.Arrays;
import java.util.HashMap;
import java.util.List;
import java.util.Map;
import java.util.NoSuchElementException;
import java.util.Set;
import java.util.TreeSet;
import java.util.regex.Matcher;
import java.util.regex.Pattern;

/**
 * The document told a second time, as plainly as can be and with no thought of speed: every
 * question is answered by trying all that could be. ModelTest compares LongTrain with it.
 */
final class Model {
    static final Set<String> KEYWORDS = new TreeSet<>(Arrays.asList("slope", "halt", "loop", "wagon", "adds", "engine",
            "rub", "sand", "wear", "walk", "train", "go", "help", "off", "cut", "rest"));

    static final class Kind {
        int length;
        int weight;
        int strength;
    }

    static final class Halt {
        int at;
        int length;
        int adds = -1;
    }

    /** What a text tells. */
    static final class Told {
        List<Integer> grades = new ArrayList<>();
        List<Halt> halts = new ArrayList<>();
        List<int[]> loops = new ArrayList<>();
        List<Kind> kinds = new ArrayList<>();
        List<Integer> first = new ArrayList<>();
        int pull = 100;
        int engine = 10;
        int rub = 1;
        int sand = 10;
        int wear = 10;
        int walk = 2;

        int units() {
            return grades.size();
        }

        int grade(int unit) {
            return unit < 0 || unit >= units() ? 0 : grades.get(unit);
        }

        int addedAt(int unit) {
            for (Halt h : halts) {
                if (h.at == unit) {
                    return h.adds;
                }
            }
            return -1;
        }
    }

    static final class Wagon implements Cloneable {
        int kind;
        int strength;
        int wear;
        List<Integer> helpers = new ArrayList<>();

        Wagon copy() {
            Wagon w = new Wagon();
            w.kind = kind;
            w.strength = strength;
            w.wear = wear;
            w.helpers.addAll(helpers);
            return w;
        }
    }

    static final class Half {
        List<Integer> kinds = new ArrayList<>();
        int unit;
    }

    /** A train somewhere. */
    static final class Rail {
        final Told on;
        int head;
        int runUp;
        List<Wagon> wagons = new ArrayList<>();
        List<Half> halves = new ArrayList<>();

        Rail(Told on) {
            this.on = on;
            for (int k : on.first) {
                wagons.add(fresh(k));
            }
        }

        Wagon fresh(int kind) {
            Wagon w = new Wagon();
            w.kind = kind;
            w.strength = on.kinds.get(kind).strength;
            return w;
        }

        Rail copy() {
            Rail r = new Rail(on);
            r.head = head;
            r.runUp = runUp;
            r.wagons.clear();
            for (Wagon w : wagons) {
                r.wagons.add(w.copy());
            }
            r.halves.addAll(halves);
            return r;
        }

        int foremost(int i) {
            int unit = head - 1;
            for (int j = 0; j < i; j++) {
                unit -= on.kinds.get(wagons.get(j).kind).length;
            }
            return unit;
        }

        int length() {
            return head - foremost(wagons.size());
        }

        int drag(int i) {
            return on.kinds.get(wagons.get(i).kind).weight * (on.grade(foremost(i)) + on.rub);
        }

        int bears(int i) {
            int sum = 0;
            for (int j = i; j < wagons.size(); j++) {
                sum += drag(j);
                for (int p : wagons.get(j).helpers) {
                    sum -= p;
                }
            }
            return sum;
        }

        int load() {
            return on.engine * (on.grade(head) + on.rub) + (wagons.isEmpty() ? 0 : bears(0));
        }

        int helpers() {
            int n = 0;
            for (Wagon w : wagons) {
                n += w.helpers.size();
            }
            return n;
        }

        int parting() {
            for (int i = 0; i < wagons.size(); i++) {
                Wagon w = wagons.get(i);
                if (bears(i) > w.strength || w.wear > on.wear * w.strength) {
                    return i;
                }
            }
            return -1;
        }

        void part(int at) {
            Half h = new Half();
            h.unit = foremost(at);
            while (wagons.size() > at) {
                h.kinds.add(wagons.remove(at).kind);
            }
            halves.add(h);
        }

        void wearOut(int below) {
            int[] more = new int[wagons.size()];
            for (int i = 0; i < more.length; i++) {
                more[i] = Math.max(0, bears(i));
            }
            for (int i = 0; i < below; i++) {
                wagons.get(i).wear += more[i];
            }
        }

        /** 0 done, 1 it stalls, 2 the line ends. */
        int move(boolean sand) {
            if (head + 1 >= on.units()) {
                return 2;
            }
            head++;
            int left = runUp + on.pull - load() + (sand ? on.sand : 0);
            if (left < 0) {
                head--;
                return 1;
            }
            runUp = left;
            int at = parting();
            wearOut(at < 0 ? wagons.size() : at);
            if (at >= 0) {
                part(at);
            }
            comeOn();
            return 0;
        }

        void comeOn() {
            int k = head == 0 ? -1 : on.addedAt(head);
            if (k >= 0 && wagons.size() < 20) {
                wagons.add(fresh(k));
            }
        }

        /** FREE to a HEAD, with what came on there or ahead of that. */
        static Rail free(Told on, int to, boolean withNew) {
            Rail r = new Rail(on);
            for (int h = 1; h <= to; h++) {
                r.head = h;
                if (h < to || withNew) {
                    r.comeOn();
                }
            }
            return r;
        }
    }

    static final class Row {
        String word;
        int a;
        int b;
    }

    byte[] tape = new byte[0];
    int fault;
    Told on = new Told();
    Rail train = new Rail(on);
    List<Row> plan = new ArrayList<>();
    List<Integer> places = new ArrayList<>();
    List<Integer> carriers = new ArrayList<>();
    int[] judged;
    final Object[][] kept = new Object[2][];

    // ---- texts

    private static final class Fault extends RuntimeException {
        private static final long serialVersionUID = 1;
        final int place;
        final int kind;

        Fault(int place, int kind) {
            this.place = place;
            this.kind = kind;
        }
    }

    /** The TOKENS of a text with their places; "?" is none, "" is the end. */
    private static final class Tokens {
        final List<String> texts = new ArrayList<>();
        final List<Integer> places = new ArrayList<>();
        int next;

        Tokens(String text, int most) {
            Matcher m = Pattern.compile("[a-z0-9]+|[^ \\n]", Pattern.DOTALL).matcher(text);
            while (m.find() && m.start() < most) {
                boolean good = m.group().matches("[a-z]{1,7}|[0-9]{1,3}|;|-");
                texts.add(good ? m.group() : "?");
                places.add(m.start());
            }
            texts.add(text.length() > most ? "?" : "");
            places.add(Math.min(text.length(), most));
        }

        String peek() {
            return texts.get(next);
        }

        int place() {
            return places.get(next);
        }

        Fault bad(int kind) {
            return new Fault(place(), kind);
        }

        int number(int least, int most) {
            if (!peek().matches("[0-9]+")) {
                throw bad(1);
            }
            int n = Integer.parseInt(peek());
            if (n < least || n > most) {
                throw bad(2);
            }
            return n;
        }

        int take(int least, int most) {
            int n = number(least, most);
            next++;
            return n;
        }

        String name() {
            if (!peek().matches("[a-z]+") || KEYWORDS.contains(peek())) {
                throw bad(1);
            }
            return peek();
        }

        void semicolon() {
            if (!peek().equals(";")) {
                throw bad(1);
            }
            next++;
        }
    }

    private String text() {
        StringBuilder s = new StringBuilder();
        for (byte b : tape) {
            s.append((char) (b & 255));
        }
        tape = new byte[0];
        return s.toString();
    }

    int line() {
        Tokens t = new Tokens(text(), 900);
        fault = 0;
        try {
            Told told = new Told();
            Map<String, Object> names = new HashMap<>();
            Map<String, Integer> numbers = new HashMap<>();
            Set<String> once = new TreeSet<>();
            int slopes = 0;
            int rows = 0;
            while (!t.peek().isEmpty()) {
                String word = t.peek();
                int rowPlace = t.place();
                if (Arrays.asList("engine", "rub", "sand", "wear", "walk", "train").contains(word) && !once.add(word)) {
                    throw t.bad(3);
                }
                boolean full = word.equals("slope") && slopes == 20 || word.equals("halt") && told.halts.size() == 10
                        || word.equals("loop") && told.loops.size() == 8
                        || word.equals("wagon") && told.kinds.size() == 6;
                if (full) {
                    throw new Fault(rowPlace, 4);
                }
                t.next++;
                switch (word) {
                    case "slope" -> {
                        slopes++;
                        boolean minus = t.peek().equals("-");
                        if (minus) {
                            t.next++;
                        }
                        int g = t.take(0, 9);
                        int n = t.number(1, 99);
                        if (told.units() + n > 400) {
                            throw t.bad(4);
                        }
                        t.next++;
                        for (int i = 0; i < n; i++) {
                            told.grades.add(minus ? -g : g);
                        }
                    }
                    case "halt" -> {
                        String name = t.name();
                        if (names.containsKey(name)) {
                            throw t.bad(3);
                        }
                        t.next++;
                        Halt h = new Halt();
                        int last = told.halts.isEmpty() ? -1 : told.halts.get(told.halts.size() - 1).at;
                        h.at = t.take(last + 1, told.units() - 1);
                        h.length = t.take(1, 99);
                        names.put(name, h);
                        told.halts.add(h);
                    }
                    case "loop" -> {
                        int at = t.number(0, told.units() - 1);
                        for (int[] l : told.loops) {
                            if (l[0] == at) {
                                throw t.bad(3);
                            }
                        }
                        t.next++;
                        told.loops.add(new int[] {at, t.take(1, 99)});
                    }
                    case "wagon" -> {
                        String name = t.name();
                        if (names.containsKey(name)) {
                            throw t.bad(3);
                        }
                        t.next++;
                        Kind k = new Kind();
                        k.length = t.take(1, 9);
                        k.weight = t.take(1, 99);
                        k.strength = t.take(1, 999);
                        names.put(name, k);
                        numbers.put(name, told.kinds.size());
                        told.kinds.add(k);
                    }
                    case "adds" -> {
                        if (!(names.get(t.name()) instanceof Halt h) || h.adds >= 0) {
                            throw t.bad(3);
                        }
                        t.next++;
                        if (!numbers.containsKey(t.name())) {
                            throw t.bad(3);
                        }
                        h.adds = numbers.get(t.name());
                        t.next++;
                    }
                    case "engine" -> {
                        told.pull = t.take(1, 999);
                        told.engine = t.take(1, 99);
                    }
                    case "rub" -> told.rub = t.take(0, 9);
                    case "sand" -> told.sand = t.take(0, 99);
                    case "wear" -> told.wear = t.take(1, 99);
                    case "walk" -> told.walk = t.take(1, 9);
                    case "train" -> {
                        do {
                            if (!numbers.containsKey(t.name())) {
                                throw t.bad(3);
                            }
                            if (told.first.size() == 8) {
                                throw t.bad(4);
                            }
                            told.first.add(numbers.get(t.name()));
                            t.next++;
                        } while (!t.peek().equals(";"));
                    }
                    default -> throw new Fault(rowPlace, 1);
                }
                t.semicolon();
                rows++;
            }
            on = told;
            train = new Rail(on);
            plan = new ArrayList<>();
            return rows;
        } catch (Fault f) {
            fault = f.kind;
            return -1 - f.place;
        }
    }

    int plan() {
        Tokens t = new Tokens(text(), 400);
        fault = 0;
        try {
            List<Row> rows = new ArrayList<>();
            while (!t.peek().isEmpty()) {
                Row r = new Row();
                r.word = t.peek();
                if (!Arrays.asList("go", "sand", "help", "off", "cut", "rest").contains(r.word)) {
                    throw t.bad(1);
                }
                if (rows.size() == 30) {
                    throw t.bad(4);
                }
                t.next++;
                switch (r.word) {
                    case "go", "sand" -> r.a = t.take(1, 400);
                    case "help" -> {
                        r.a = t.take(0, 19);
                        r.b = t.take(1, 999);
                    }
                    case "cut" -> r.a = t.take(0, 19);
                    default -> { }
                }
                t.semicolon();
                rows.add(r);
            }
            plan = rows;
            return rows.size();
        } catch (Fault f) {
            fault = f.kind;
            return -1 - f.place;
        }
    }

    // ---- the face

    int feed(int... numbers) {
        if (tape.length + 20 > 940) {
            return -1;
        }
        int at = tape.length;
        tape = Arrays.copyOf(tape, at + 20);
        for (int n : numbers) {
            for (int shift = 24; shift >= 0; shift -= 8) {
                tape[at++] = (byte) (n >> shift);
            }
        }
        return tape.length;
    }

    boolean end(int n) {
        if (n < 0 || n > tape.length) {
            return false;
        }
        tape = Arrays.copyOf(tape, n);
        return true;
    }

    private static int pick(int what, int... values) {
        if (what < 0 || what >= values.length) {
            throw new NoSuchElementException();
        }
        return values[what];
    }

    private static int pickOrNone(int what, int... values) {
        return what < 0 || what >= values.length ? -1 : values[what];
    }

    private static <T> T item(List<T> list, int i) {
        if (i < 0 || i >= list.size()) {
            throw new NoSuchElementException();
        }
        return list.get(i);
    }

    int grade(int unit) {
        if (unit >= on.units() || unit < -999) {
            throw new NoSuchElementException();
        }
        return on.grade(unit);
    }

    int halt(int h, int what) {
        Halt halt = item(on.halts, h);
        return pick(what, halt.at, halt.length, halt.adds);
    }

    int kind(int k, int what) {
        Kind kind = item(on.kinds, k);
        return pick(what, kind.length, kind.weight, kind.strength);
    }

    int train(int what) {
        int weight = on.engine;
        for (Wagon w : train.wagons) {
            weight += on.kinds.get(w.kind).weight;
        }
        return pickOrNone(what, train.head, train.wagons.size(), train.runUp, train.length(), weight, train.load(),
                train.helpers(), train.halves.size());
    }

    int wagon(int i, int what) {
        Wagon w = item(train.wagons, i);
        return pick(what, w.kind, train.foremost(i), train.bears(i), w.wear, train.drag(i));
    }

    int half(int k, int what) {
        Half h = item(train.halves, k);
        int next = -1;
        for (int i = on.halts.size() - 1; i >= 0; i--) {
            next = on.halts.get(i).at > h.unit ? i : next;
        }
        int unit = h.unit;
        int drag = 0;
        for (int kind : h.kinds) {
            drag += on.kinds.get(kind).weight * (on.grade(unit) + on.rub);
            unit -= on.kinds.get(kind).length;
        }
        return pick(what, h.kinds.size(), h.unit, h.unit - unit, next, drag);
    }

    int go(int moves, int sand) {
        if (moves < 0 || moves > 400 || sand < 0 || sand > 1) {
            return -1;
        }
        int done = 0;
        while (done < moves && train.move(sand == 1) == 0) {
            done++;
        }
        return done;
    }

    private boolean unit(int u) {
        return u >= 0 && u < on.units();
    }

    private boolean way(int a, int b) {
        return unit(a) && unit(b) && a <= b;
    }

    int borne(int a, int b, int what, int sign) {
        if (what < 0 || what > 2) {
            throw new NoSuchElementException();
        }
        if (!way(a, b)) {
            return -1;
        }
        int[] best = null;
        for (int h = a; h <= b; h++) {
            Rail r = Rail.free(on, h, false);
            for (int i = 0; i < r.wagons.size(); i++) {
                if (best == null || sign * r.bears(i) > sign * best[0]) {
                    best = new int[] {r.bears(i), h, i};
                }
            }
        }
        return best == null ? -1 : best[what];
    }

    int span(int u, int v, int what) {
        if (!unit(u) || !unit(v) || what < 0 || what > 1) {
            return -1;
        }
        int heads = 0;
        int first = -1;
        for (int h = 0; h < on.units(); h++) {
            int end = h - Rail.free(on, h, true).length() + 1;
            if (u <= h && u >= end && v <= h && v >= end) {
                heads++;
                first = first < 0 ? h : first;
            }
        }
        return what == 0 ? heads : first;
    }

    int loop(int k, int what) {
        return k < 0 || k >= on.loops.size() ? -1 : pickOrNone(what, on.loops.get(k));
    }

    /** By how much RUN-UP is more at each HEAD. */
    private int gain(int head) {
        return on.pull - Rail.free(on, head, false).load();
    }

    int climb(int a, int b, int e) {
        if (!way(a, b) || e < 0 || e > 99999) {
            return -1;
        }
        int runUp = e;
        for (int h = a + 1; h <= b; h++) {
            runUp += gain(h);
            if (runUp < 0) {
                return h - 1;
            }
        }
        return b;
    }

    int needed(int a, int b) {
        if (!way(a, b)) {
            return -1;
        }
        int need = 0;
        for (int h = b; h > a; h--) {
            need = Math.max(0, need - gain(h));
        }
        return need;
    }

    int sanded(int a, int b, int e) {
        if (!way(a, b) || e < 0 || e > 99999) {
            return -1;
        }
        // most RUN-UP by how many UNITS of sand were used; below 0: it stalled
        int[] most = new int[b - a + 1];
        Arrays.fill(most, -1);
        most[0] = e;
        for (int h = a + 1; h <= b; h++) {
            int gain = gain(h);
            for (int k = b - a; k >= 0; k--) {
                int without = most[k] < 0 ? -1 : most[k] + gain;
                int with = k == 0 || most[k - 1] < 0 ? -1 : most[k - 1] + gain + on.sand;
                most[k] = Math.max(-1, Math.max(without, with));
            }
        }
        for (int k = 0; k <= b - a; k++) {
            if (most[k] >= 0) {
                return k;
            }
        }
        return -1;
    }

    int helped(int a, int b, int e, int p) {
        if (!way(a, b) || e < 0 || e > 99999 || p < 1 || p > 999) {
            return -1;
        }
        int bits = 0;
        for (int i = 0; i < Rail.free(on, a, true).wagons.size(); i++) {
            int runUp = e;
            boolean good = true;
            for (int h = a + 1; h <= b && good; h++) {
                Rail r = Rail.free(on, h, false);
                r.wagons.get(i).helpers.add(p);
                runUp += on.pull - r.load();
                good = runUp >= 0;
                for (int j = 0; j < r.wagons.size(); j++) {
                    good &= r.bears(j) <= r.wagons.get(j).strength;
                }
            }
            bits |= good ? 1 << i : 0;
        }
        return bits;
    }

    /** How many HALTS it comes to with a way to place each new WAGON. */
    private interface Placing {
        int place(Rail r, Wagon fresh, int added);
    }

    private int halts(Placing placing) {
        Rail r = new Rail(on);
        int added = 0;
        for (int h = 1; h < on.units(); h++) {
            r.head = h;
            if (r.parting() >= 0) {
                return added;
            }
            r.wearOut(r.wagons.size());
            int k = on.addedAt(h);
            if (k >= 0) {
                Wagon w = r.fresh(k);
                r.wagons.add(placing.place(r, w, added), w);
                added++;
            }
        }
        return added;
    }

    int lives(int rule) {
        return switch (rule) {
            case 0 -> halts((r, w, n) -> r.wagons.size());
            case 1 -> halts((r, w, n) -> 0);
            case 2 -> halts((r, w, n) -> {
                for (int i = 0; i < r.wagons.size(); i++) {
                    if (r.wagons.get(i).strength < w.strength) {
                        return i;
                    }
                }
                return r.wagons.size();
            });
            default -> -1;
        };
    }

    int longest() {
        int n = on.first.size();
        int best = -1;
        int adding = 0;
        for (Halt h : on.halts) {
            adding += h.adds >= 0 && h.at > 0 ? 1 : 0;
        }
        int[] row = new int[4];
        // all rows of four places in their order; those beyond the HALTS that add stay 0
        boolean more = true;
        while (more) {
            int got = halts((r, w, k) -> k < 4 ? row[k] : r.wagons.size());
            if (got > best) {
                best = got;
                places = new ArrayList<>();
                for (int i = 0; i < Math.min(got, 4); i++) {
                    places.add(row[i]);
                }
            }
            more = false;
            for (int i = Math.min(4, adding) - 1; i >= 0 && !more; i--) {
                row[i]++;
                more = row[i] <= n + i;
                row[i] = more ? row[i] : 0;
            }
        }
        return best;
    }

    int placed(int i) {
        return i < 0 || i >= places.size() ? -1 : places.get(i);
    }

    int platform(int h) {
        if (h < 0 || h >= on.halts.size()) {
            return -1;
        }
        Halt halt = on.halts.get(h);
        Rail r = Rail.free(on, halt.at, false);
        int bits = 0;
        for (int i = 0; i < r.wagons.size(); i++) {
            boolean all = true;
            for (int u = r.foremost(i); u > r.foremost(i + 1); u--) {
                all &= u >= halt.at - halt.length + 1 && u <= halt.at;
            }
            bits |= all ? 1 << i : 0;
        }
        return bits;
    }

    int room(int h) {
        if (h < 0 || h >= on.halts.size()) {
            return -1;
        }
        Halt halt = on.halts.get(h);
        int was = halt.length;
        int all = (1 << Rail.free(on, halt.at, false).wagons.size()) - 1;
        int need = 0;
        while (true) {
            halt.length = need;
            if (platform(h) == all) {
                halt.length = was;
                return need;
            }
            need++;
        }
    }

    int walk(int i, int j, int a, boolean back) {
        if (!unit(a) || i < 0 || i > j || j >= Rail.free(on, a, true).wagons.size()) {
            return -1;
        }
        if (i == j) {
            return 0;
        }
        // Where COUPLINGS stand, in UNITS behind the foremost of i; he is at a place between them
        int[] stands = new int[j + 1];
        for (int w = i + 1; w <= j; w++) {
            stands[w] = stands[w - 1] + on.kinds.get(Rail.free(on, a, true).wagons.get(w - 1).kind).length;
        }
        int at = back ? stands[j] : 0;
        int coupling = back ? j : i + 1;
        int minute = 0;
        for (int h = a; h < on.units(); h++) {
            minute++;
            Rail r = Rail.free(on, h, true);
            for (int gone = 0;; gone++) {
                if (coupling > i && coupling <= j && at == stands[coupling]) {
                    if (r.bears(coupling) > r.wagons.get(coupling).strength / 2) {
                        break;
                    }
                    coupling += back ? -1 : 1;
                }
                if (back ? at == 0 : coupling > j) {
                    return minute;
                }
                if (gone == on.walk) {
                    break;
                }
                at += back ? -1 : 1;
            }
        }
        return -1;
    }

    int loads() {
        byte[] bytes = tape;
        tape = new byte[0];
        if (bytes.length < 1 || bytes.length > 8) {
            return -1;
        }
        for (byte b : bytes) {
            if ((b & 255) >= on.halts.size()) {
                return -1;
            }
        }
        int[] can = new int[bytes.length];
        for (int i = 0; i < can.length; i++) {
            can[i] = platform(bytes[i]) & (1 << on.first.size()) - 1;
        }
        int[] best = new int[can.length];
        int[] row = new int[can.length];
        int most = tryLoads(can, 0, 0, row, best, -1);
        carriers = new ArrayList<>();
        for (int w : best) {
            carriers.add(w);
        }
        return most;
    }

    private static int tryLoads(int[] can, int i, int used, int[] row, int[] best, int most) {
        if (i == can.length) {
            int n = Integer.bitCount(used);
            if (n > most) {
                System.arraycopy(row, 0, best, 0, row.length);
            }
            return Math.max(n, most);
        }
        if (Integer.bitCount(used) + can.length - i <= most) {
            return most;
        }
        int got = most;
        for (int w = 0; w <= 8; w++) {
            if (w == 8) {
                row[i] = -1;
                got = tryLoads(can, i + 1, used, row, best, got);
            } else if ((can[i] >> w & 1) == 1 && (used >> w & 1) == 0) {
                row[i] = w;
                got = tryLoads(can, i + 1, used | 1 << w, row, best, got);
            }
        }
        return got;
    }

    int load(int i) {
        return i < 0 || i >= carriers.size() ? -1 : carriers.get(i);
    }

    int cross(int a, int b, int x, int y, int what) {
        if (a < 1 || a > 400 || b < 1 || b > 400 || !unit(x) || !unit(y) || x >= y) {
            return -1;
        }
        int[] best = {-1, -1};
        boolean firstIn = a <= b;
        for (int k = 0; k < on.loops.size(); k++) {
            int at = on.loops.get(k)[0];
            if (at >= x && at <= y && on.loops.get(k)[1] >= (firstIn ? a : b)) {
                int shorter = firstIn ? at - x + a : y - at + b;
                int other = firstIn ? y - at : at - x;
                int later = Math.max(shorter, other);
                if (best[0] < 0 || later < best[1]) {
                    best = new int[] {k, later};
                }
            }
        }
        return pickOrNone(what, best);
    }

    int ring(int units, int a, int b, int kind) {
        if (units < 1 || units > 9999 || a < 1 || a > 999 || b < 1 || b > 999 || kind < 0 || kind >= on.kinds.size()) {
            return -1;
        }
        int rounds = 0;
        int together = a + b;
        while (together + on.kinds.get(kind).length <= units) {
            together += on.kinds.get(kind).length;
            rounds++;
        }
        return rounds;
    }

    int judge(int does) {
        if (does < 0 || does > 1) {
            return -2;
        }
        Rail r = does == 0 ? train.copy() : train;
        int moves = 0;
        int sands = 0;
        int why = 0;
        int wrong = -1;
        for (int i = 0; i < plan.size() && why == 0; i++) {
            Row row = plan.get(i);
            switch (row.word) {
                case "go", "sand" -> {
                    boolean sand = row.word.equals("sand");
                    for (int m = 0; m < row.a && why == 0; m++) {
                        why = r.move(sand);
                        moves += why == 0 ? 1 : 0;
                        sands += why == 0 && sand ? 1 : 0;
                    }
                }
                case "help" -> {
                    why = row.a >= r.wagons.size() ? 3 : r.helpers() >= 4 ? 5 : 0;
                    if (why == 0) {
                        r.wagons.get(row.a).helpers.add(row.b);
                    }
                }
                case "off" -> {
                    why = r.helpers() == 0 ? 4 : 0;
                    for (Wagon w : r.wagons) {
                        w.helpers.clear();
                    }
                }
                case "cut" -> {
                    why = row.a >= r.wagons.size() ? 3 : 0;
                    if (why == 0) {
                        r.part(row.a);
                    }
                }
                default -> {
                    why = r.runUp == 0 ? 6 : 0;
                    r.runUp = 0;
                }
            }
            wrong = why == 0 ? -1 : i;
        }
        judged = new int[] {why, moves, sands, r.head, r.wagons.size(), r.halves.size()};
        return wrong;
    }

    int judged(int what) {
        return judged == null ? -1 : pickOrNone(what, judged);
    }

    int bet(int seed) {
        int x = seed;
        Rail r = new Rail(on);
        int drawn = 0;
        for (int h = 1; h <= on.units(); h++) {
            for (; drawn < r.wagons.size(); drawn++) {
                Wagon w = r.wagons.get(drawn);
                x = x * 1103515245 + 12345;
                w.strength -= (x >>> 8) % (w.strength / 4 + 1);
            }
            if (h == on.units()) {
                break;
            }
            r.head = h;
            if (r.parting() >= 0) {
                return h;
            }
            r.wearOut(r.wagons.size());
            r.comeOn();
        }
        return -1;
    }

    int bets(int n, int seed, int unit) {
        if (n < 1 || n > 200 || !unit(unit)) {
            return -1;
        }
        int parted = 0;
        for (int i = 0; i < n; i++) {
            int head = bet(seed + i);
            parted += head >= 0 && head <= unit ? 1 : 0;
        }
        return parted;
    }

    boolean image(int k) {
        if (k < 0 || k > 1) {
            return false;
        }
        kept[k] = new Object[] {on, train.copy(), plan};
        return true;
    }

    @SuppressWarnings("unchecked")
    boolean restore(int k) {
        if (k < 0 || k > 1 || kept[k] == null) {
            return false;
        }
        on = (Told) kept[k][0];
        train = ((Rail) kept[k][1]).copy();
        plan = (List<Row>) kept[k][2];
        return true;
    }

    int count(int what) {
        return pickOrNone(what, on.units(), on.halts.size(), on.loops.size(), on.kinds.size(), on.pull, on.rub, on.sand,
                on.wear, on.walk, plan.size(), tape.length);
    }
}
