import java.util.NoSuchElementException;

/** A line told as a text and a train on it that takes on a wagon at every halt: see README.md. */
public final class LongTrain {
    public static final int NONE = -1;

    private static final int MOST_TAPE = 940;
    private static final int MOST_UNITS = 400;
    private static final int MOST_WAGONS = 20;
    private static final int MOST_HALTS = 10;
    private static final int MOST_LOOPS = 8;
    private static final int MOST_KINDS = 6;
    private static final int MOST_FIRST = 8;
    private static final int MOST_LOADS = 8;
    private static final int MOST_RUN_UP = 99999;
    private static final int MOST_PUSH = 999;
    private static final int MOST_BETS = 200;
    private static final int FARTHEST_BACK = -999;
    private static final int IMAGES = 2;

    private final int[] tape = new int[MOST_TAPE];
    private int tapeSize;
    private int faultKind;
    private final LineReader lineReader = new LineReader();
    private final Reader planReader = new Reader();
    private final State now = new State();
    private final State[] images = new State[IMAGES];
    /** Filled by readers, so that a FAULT leaves what stands untouched. */
    private Line spareLine = new Line();
    private Plan sparePlan = new Plan();
    private final Free free = new Free();
    private final Lives life = new Lives();
    private final Judge court = new Judge();
    /** On which a PLAN is tried while the TRAIN stays. */
    private final Train trialTrain = new Train();

    public LongTrain() {
    }

    public int feed(int a, int b, int c, int d, int e) {
        if (tapeSize + 20 > MOST_TAPE) {
            return NONE;
        }
        putNumber(a);
        putNumber(b);
        putNumber(c);
        putNumber(d);
        putNumber(e);
        return tapeSize;
    }

    private void putNumber(int number) {
        for (int shift = 24; shift >= 0 && tapeSize < MOST_TAPE; shift -= 8) {
            tape[tapeSize] = (number >>> shift) & 255;
            tapeSize++;
        }
    }

    public boolean end(int n) {
        if (n < 0 || n > tapeSize) {
            return false;
        }
        tapeSize = n;
        return true;
    }

    public int line() {
        int rows = lineReader.read(tape, takeTape(), spareLine);
        faultKind = lineReader.reader.fault;
        if (rows >= 0) {
            Line old = now.line;
            now.line = spareLine;
            spareLine = old;
            now.train.begin(now.line);
            now.plan.clear();
        }
        return rows;
    }

    /** How many bytes the tape has had; it is empty from then on. */
    private int takeTape() {
        int size = tapeSize;
        tapeSize = 0;
        return size;
    }

    public int fault() {
        return faultKind;
    }

    public int grade(int unit) throws NoSuchElementException {
        if (unit < FARTHEST_BACK || unit >= now.line.units) {
            throw new NoSuchElementException();
        }
        return now.line.gradeOf(unit);
    }

    public int halt(int h, int what) throws NoSuchElementException {
        if (!isHalt(h) || what < 0 || what > 2) {
            throw new NoSuchElementException();
        }
        return now.line.halts[3 * h + what];
    }

    private boolean isHalt(int h) {
        return h >= 0 && h < now.line.haltCount;
    }

    public int kind(int k, int what) throws NoSuchElementException {
        if (!isKind(k) || what < 0 || what > 2) {
            throw new NoSuchElementException();
        }
        return now.line.kinds[3 * k + what];
    }

    private boolean isKind(int k) {
        return k >= 0 && k < now.line.kindCount;
    }

    public int train(int what) {
        Row row = now.train.row;
        switch (what) {
            case 0: return row.head;
            case 1: return row.size;
            case 2: return now.train.runUp;
            case 3: return 1 + row.total;
            case 4: return now.line.engineWeight + row.weightOfAll();
            case 5: return row.measure(now.line);
            case 6: return row.helperCount();
            case 7: return now.train.halves.size;
            default: return NONE;
        }
    }

    public int wagon(int i, int what) throws NoSuchElementException {
        Row row = now.train.row;
        if (i < 0 || i >= row.size || what < 0 || what > 4) {
            throw new NoSuchElementException();
        }
        switch (what) {
            case 0: return row.kinds[i];
            case 1: return row.foremostUnit(i);
            case 2: return row.borneBy(i, now.line);
            case 3: return row.wears[i];
            default: return now.line.dragOf(row.weights[i], row.foremostUnit(i));
        }
    }

    public int half(int k, int what) throws NoSuchElementException {
        Halves halves = now.train.halves;
        if (k < 0 || k >= halves.size || what < 0 || what > 4) {
            throw new NoSuchElementException();
        }
        switch (what) {
            case 0: return halves.sizes[k];
            case 1: return halves.units[k];
            case 2: return halves.unitsOf(k, now.line);
            case 3: return now.line.haltBehind(halves.units[k]);
            default: return halves.dragOf(k, now.line);
        }
    }

    public int go(int moves, int sand) {
        if (moves < 0 || moves > MOST_UNITS || sand < 0 || sand > 1) {
            return NONE;
        }
        int done = 0;
        while (done < moves && now.train.move(now.line, sand == 1) == Train.MOVED) {
            done++;
        }
        return done;
    }

    public int strain(int a, int b, int what) throws NoSuchElementException {
        return borne(a, b, what, true);
    }

    public int squeeze(int a, int b, int what) throws NoSuchElementException {
        return borne(a, b, what, false);
    }

    private int borne(int a, int b, int what, boolean most) throws NoSuchElementException {
        if (what < 0 || what > 2) {
            throw new NoSuchElementException();
        }
        if (!isWay(a, b) || !free.findBorne(now.line, a, b, most)) {
            return NONE;
        }
        return what == 0 ? free.foundForce : what == 1 ? free.foundHead : free.foundCoupling;
    }

    private boolean isUnit(int unit) {
        return unit >= 0 && unit < now.line.units;
    }

    private boolean isWay(int a, int b) {
        return isUnit(a) && isUnit(b) && a <= b;
    }

    private static boolean isRunUp(int e) {
        return e >= 0 && e <= MOST_RUN_UP;
    }

    public int span(int u, int v, int what) {
        if (!isUnit(u) || !isUnit(v) || what < 0 || what > 1) {
            return NONE;
        }
        free.findSpan(now.line, Math.min(u, v), Math.max(u, v));
        return what == 0 ? free.foundHeads : free.foundHead;
    }

    public int loop(int k, int what) {
        if (k < 0 || k >= now.line.loopCount || what < 0 || what > 1) {
            return NONE;
        }
        return now.line.loops[2 * k + what];
    }

    public int climb(int a, int b, int e) {
        return isWay(a, b) && isRunUp(e) ? free.climbed(now.line, a, b, e) : NONE;
    }

    public int needed(int a, int b) {
        return isWay(a, b) ? free.leastRunUp(now.line, a, b) : NONE;
    }

    public int sanded(int a, int b, int e) {
        return isWay(a, b) && isRunUp(e) ? free.leastSand(now.line, a, b, e) : NONE;
    }

    public int helped(int a, int b, int e, int p) {
        if (!isWay(a, b) || !isRunUp(e) || p < 1 || p > MOST_PUSH) {
            return NONE;
        }
        return free.helpfulWagons(now.line, a, b, e, p);
    }

    public int lives(int rule) {
        return rule < 0 || rule > 2 ? NONE : life.haltsBy(rule, now.line);
    }

    public int longest() {
        return life.findPlaces(now.line);
    }

    public int placed(int i) {
        return i < 0 || i >= life.bestCount ? NONE : life.bestPlaces[i];
    }

    public int platform(int h) {
        return isHalt(h) ? (1 << free.wagonsAtPlatform(now.line, h)) - 1 : NONE;
    }

    public int cook(int i, int j, int a) {
        return isCooksWay(i, j, a) ? cooksMinutes(i, j, a) : NONE;
    }

    public int back(int i, int j, int a) {
        return isCooksWay(i, j, a) ? cooksMinutes(j, i, a) : NONE;
    }

    private boolean isCooksWay(int i, int j, int a) {
        return isUnit(a) && i >= 0 && i <= j && free.hasWagon(now.line, j, a);
    }

    private int cooksMinutes(int from, int to, int a) {
        return from == to ? 0 : free.minutes(now.line, from, to, a);
    }

    public int room(int h) {
        return isHalt(h) ? free.roomNeeded(now.line, h) : NONE;
    }

    public int loads() {
        int size = takeTape();
        if (size < 1 || size > MOST_LOADS) {
            return NONE;
        }
        for (int i = 0; i < size; i++) {
            if (!isHalt(tape[i])) {
                return NONE;
            }
        }
        return free.loadAll(now.line, tape, size);
    }

    public int load(int i) {
        return i < 0 || i >= free.loadCount ? NONE : free.carriers[i];
    }

    public int cross(int a, int b, int x, int y, int what) {
        boolean told = isLongTrain(a) && isLongTrain(b) && isUnit(x) && isUnit(y) && x < y;
        if (!told || what < 0 || what > 1) {
            return NONE;
        }
        Line on = now.line;
        int best = NONE;
        int soonest = NONE;
        for (int k = 0; k < on.loopCount; k++) {
            int at = on.loops[2 * k];
            if (at < x || at > y || on.loops[2 * k + 1] < Math.min(a, b)) {
                continue;
            }
            int up = at - x + (a <= b ? a : 0);
            int down = y - at + (a <= b ? 0 : b);
            int minutes = Math.max(up, down);
            if (best == NONE || minutes < soonest) {
                best = k;
                soonest = minutes;
            }
        }
        return what == 0 ? best : soonest;
    }

    private static boolean isLongTrain(int units) {
        return units >= 1 && units <= MOST_UNITS;
    }

    public int ring(int units, int a, int b, int kind) {
        boolean told = units >= 1 && units <= 9999 && a >= 1 && a <= 999 && b >= 1 && b <= 999;
        if (!told || !isKind(kind)) {
            return NONE;
        }
        int left = units - a - b;
        int more = now.line.longOf(kind);
        return left < 0 || more <= 0 ? 0 : left / more;
    }

    public int plan() {
        int rows = sparePlan.read(planReader, tape, takeTape());
        faultKind = planReader.fault;
        if (rows >= 0) {
            Plan old = now.plan;
            now.plan = sparePlan;
            sparePlan = old;
        }
        return rows;
    }

    public int judge(int does) {
        if (does == 1) {
            return court.run(now.plan, now.line, now.train);
        }
        if (does != 0) {
            return -2;
        }
        trialTrain.copyFrom(now.train);
        return court.run(now.plan, now.line, trialTrain);
    }

    public int judged(int what) {
        return what < 0 || what > 5 || !court.hasRun ? NONE : court.told[what];
    }

    public int bet(int seed) {
        return life.betHead(now.line, seed);
    }

    public int bets(int n, int seed, int unit) {
        if (n < 1 || n > MOST_BETS || !isUnit(unit)) {
            return NONE;
        }
        return life.betsPartedBy(now.line, n, seed, unit);
    }

    public boolean image(int k) {
        if (k < 0 || k >= IMAGES) {
            return false;
        }
        if (images[k] == null) {
            images[k] = new State();
        }
        images[k].copyFrom(now);
        return true;
    }

    public boolean restore(int k) {
        if (k < 0 || k >= IMAGES || images[k] == null) {
            return false;
        }
        now.copyFrom(images[k]);
        return true;
    }

    public int count(int what) {
        Line on = now.line;
        switch (what) {
            case 0: return on.units;
            case 1: return on.haltCount;
            case 2: return on.loopCount;
            case 3: return on.kindCount;
            case 4: return on.pull;
            case 5: return on.rub;
            case 6: return on.sand;
            case 7: return on.wear;
            case 8: return on.walk;
            case 9: return now.plan.size;
            case 10: return tapeSize;
            default: return NONE;
        }
    }

    /** What an image keeps. */
    private static final class State {
        Line line = new Line();
        Plan plan = new Plan();
        final Train train = new Train();

        void copyFrom(State other) {
            line.copyFrom(other.line);
            plan.copyFrom(other.plan);
            train.copyFrom(other.train);
        }
    }

    /** A LINE: what a text tells. */
    private static final class Line {
        final int[] grades = new int[MOST_UNITS];
        int units;
        /** AT, LONG and the KIND that it adds of each HALT, one behind the other. */
        final int[] halts = new int[3 * MOST_HALTS];
        int haltCount;
        /** AT and LONG of each loop. */
        final int[] loops = new int[2 * MOST_LOOPS];
        int loopCount;
        /** LONG, WEIGHT and STRENGTH of each KIND. */
        final int[] kinds = new int[3 * MOST_KINDS];
        int kindCount;
        /** KINDS of the WAGONS at first. */
        final int[] first = new int[MOST_FIRST];
        int firstCount;
        int pull;
        int engineWeight;
        int rub;
        int sand;
        int wear;
        int walk;

        Line() {
            clear();
        }

        void clear() {
            units = 0;
            haltCount = 0;
            loopCount = 0;
            kindCount = 0;
            firstCount = 0;
            pull = 100;
            engineWeight = 10;
            rub = 1;
            sand = 10;
            wear = 10;
            walk = 2;
        }

        void copyFrom(Line other) {
            System.arraycopy(other.grades, 0, grades, 0, MOST_UNITS);
            System.arraycopy(other.halts, 0, halts, 0, 3 * MOST_HALTS);
            System.arraycopy(other.loops, 0, loops, 0, 2 * MOST_LOOPS);
            System.arraycopy(other.kinds, 0, kinds, 0, 3 * MOST_KINDS);
            System.arraycopy(other.first, 0, first, 0, MOST_FIRST);
            units = other.units;
            haltCount = other.haltCount;
            loopCount = other.loopCount;
            kindCount = other.kindCount;
            firstCount = other.firstCount;
            pull = other.pull;
            engineWeight = other.engineWeight;
            rub = other.rub;
            sand = other.sand;
            wear = other.wear;
            walk = other.walk;
        }

        int gradeOf(int unit) {
            return unit < 0 || unit >= units ? 0 : grades[unit];
        }

        int dragOf(int weight, int unit) {
            return weight * (gradeOf(unit) + rub);
        }

        int haltAt(int h) {
            return halts[3 * h];
        }

        int haltLong(int h) {
            return halts[3 * h + 1];
        }

        int haltAdds(int h) {
            return halts[3 * h + 2];
        }

        int longOf(int kind) {
            return kinds[3 * kind];
        }

        int weightOf(int kind) {
            return kinds[3 * kind + 1];
        }

        int strengthOf(int kind) {
            return kinds[3 * kind + 2];
        }

        /** The first HALT whose AT is above a UNIT; NONE: none. */
        int haltBehind(int unit) {
            for (int h = 0; h < haltCount; h++) {
                if (haltAt(h) > unit) {
                    return h;
                }
            }
            return NONE;
        }
    }

    /** An engine and the WAGONS behind it at a place, with what their COUPLINGS have. */
    private static final class Row {
        final int[] kinds = new int[MOST_WAGONS];
        final int[] longs = new int[MOST_WAGONS];
        final int[] weights = new int[MOST_WAGONS];
        final int[] strengths = new int[MOST_WAGONS];
        final int[] wears = new int[MOST_WAGONS];
        /** P of all HELPERS at the WAGON, and how many they are. */
        final int[] pushes = new int[MOST_WAGONS];
        final int[] helpers = new int[MOST_WAGONS];
        /** What each COUPLING BEARS, by the latest measure(). */
        final int[] bears = new int[MOST_WAGONS];
        int size;
        /** UNITS of all WAGONS. */
        int total;
        int head;
        /** The first HALT to which no MOVE has come. */
        int nextHalt;

        /** The TRAIN at first: it stands at UNIT 0, so a HALT there is not come to by a MOVE. */
        void begin(Line line) {
            size = 0;
            total = 0;
            head = 0;
            nextHalt = 0;
            while (nextHalt < line.haltCount && line.haltAt(nextHalt) <= 0) {
                nextHalt++;
            }
            for (int i = 0; i < line.firstCount; i++) {
                insert(i, line.first[i], line);
            }
        }

        void copyFrom(Row other) {
            System.arraycopy(other.kinds, 0, kinds, 0, MOST_WAGONS);
            System.arraycopy(other.longs, 0, longs, 0, MOST_WAGONS);
            System.arraycopy(other.weights, 0, weights, 0, MOST_WAGONS);
            System.arraycopy(other.strengths, 0, strengths, 0, MOST_WAGONS);
            System.arraycopy(other.wears, 0, wears, 0, MOST_WAGONS);
            System.arraycopy(other.pushes, 0, pushes, 0, MOST_WAGONS);
            System.arraycopy(other.helpers, 0, helpers, 0, MOST_WAGONS);
            size = other.size;
            total = other.total;
            head = other.head;
            nextHalt = other.nextHalt;
        }

        /** A WAGON comes on ahead of the one at a place; WEAR goes with the WAGONS behind. */
        void insert(int place, int kind, Line line) {
            if (size >= MOST_WAGONS || place < 0 || place > size) {
                return;
            }
            openPlace(kinds, place);
            openPlace(longs, place);
            openPlace(weights, place);
            openPlace(strengths, place);
            openPlace(wears, place);
            openPlace(pushes, place);
            openPlace(helpers, place);
            kinds[place] = kind;
            longs[place] = line.longOf(kind);
            weights[place] = line.weightOf(kind);
            strengths[place] = line.strengthOf(kind);
            size++;
            total += longs[place];
        }

        private void openPlace(int[] row, int place) {
            for (int i = size; i > place; i--) {
                row[i] = row[i - 1];
            }
            row[place] = 0;
        }

        /** WAGONS from a place on are of the row no more. */
        void dropFrom(int place) {
            for (int i = Math.max(place, 0); i < size; i++) {
                total -= longs[i];
            }
            size = Math.min(size, Math.max(place, 0));
        }

        /** The KIND that the HALT to which HEAD came adds; NONE: none. */
        int arrive(Line line) {
            if (nextHalt >= line.haltCount || line.haltAt(nextHalt) != head) {
                return NONE;
            }
            nextHalt++;
            return line.haltAdds(nextHalt - 1);
        }

        /** What HEAD's HALT adds comes on at the end. */
        void takeOn(Line line) {
            int kind = arrive(line);
            if (kind != NONE) {
                insert(size, kind, line);
            }
        }

        /** FREE from UNIT 0 to a HEAD, ahead of what comes on there. */
        void travel(Line line, int to) {
            begin(line);
            while (head < to) {
                takeOn(line);
                head++;
            }
        }

        /** Fills bears for the place where it is now; the LOAD. */
        int measure(Line line) {
            int unit = head - 1 - total;
            int sum = 0;
            for (int i = size - 1; i >= 0; i--) {
                unit += longs[i];
                sum += weights[i] * (line.gradeOf(unit) + line.rub) - pushes[i];
                bears[i] = sum;
            }
            return sum + line.dragOf(line.engineWeight, head);
        }

        int borneBy(int i, Line line) {
            measure(line);
            return bears[i];
        }

        /** The foremost COUPLING that parts by the latest measure(); NONE: none. */
        int partingPlace(int wear) {
            for (int i = 0; i < size; i++) {
                if (bears[i] > strengths[i] || wears[i] > wear * strengths[i]) {
                    return i;
                }
            }
            return NONE;
        }

        void addWear(int below) {
            for (int i = 0; i < below && i < size; i++) {
                if (bears[i] > 0) {
                    wears[i] += bears[i];
                }
            }
        }

        boolean isOverborne() {
            for (int i = 0; i < size; i++) {
                if (bears[i] > strengths[i]) {
                    return true;
                }
            }
            return false;
        }

        int foremostUnit(int i) {
            int unit = head - 1;
            for (int j = 0; j < i && j < size; j++) {
                unit -= longs[j];
            }
            return unit;
        }

        int weightOfAll() {
            int sum = 0;
            for (int i = 0; i < size; i++) {
                sum += weights[i];
            }
            return sum;
        }

        int helperCount() {
            int sum = 0;
            for (int i = 0; i < size; i++) {
                sum += helpers[i];
            }
            return sum;
        }

        void help(int i, int push) {
            pushes[i] += push;
            helpers[i]++;
        }

        void dismissHelpers() {
            for (int i = 0; i < size; i++) {
                pushes[i] = 0;
                helpers[i] = 0;
            }
        }
    }

    /** WAGONS that parted and stand. */
    private static final class Halves {
        /** KINDS of all WAGONS that stand, HALF behind HALF. */
        final int[] kinds = new int[MOST_WAGONS];
        int stood;
        /** Of each HALF: where its KINDS begin, how many they are, the foremost UNIT. */
        final int[] starts = new int[MOST_WAGONS];
        final int[] sizes = new int[MOST_WAGONS];
        final int[] units = new int[MOST_WAGONS];
        int size;

        void clear() {
            stood = 0;
            size = 0;
        }

        void copyFrom(Halves other) {
            System.arraycopy(other.kinds, 0, kinds, 0, MOST_WAGONS);
            System.arraycopy(other.starts, 0, starts, 0, MOST_WAGONS);
            System.arraycopy(other.sizes, 0, sizes, 0, MOST_WAGONS);
            System.arraycopy(other.units, 0, units, 0, MOST_WAGONS);
            stood = other.stood;
            size = other.size;
        }

        void add(Row row, int from) {
            int wagons = row.size - from;
            if (from < 0 || wagons < 1 || size >= MOST_WAGONS || stood + wagons > MOST_WAGONS) {
                return;
            }
            starts[size] = stood;
            sizes[size] = wagons;
            units[size] = row.foremostUnit(from);
            size++;
            for (int i = from; i < row.size; i++) {
                kinds[stood] = row.kinds[i];
                stood++;
            }
        }

        int unitsOf(int k, Line line) {
            int sum = 0;
            for (int i = 0; i < sizes[k]; i++) {
                sum += line.longOf(kinds[starts[k] + i]);
            }
            return sum;
        }

        int dragOf(int k, Line line) {
            int sum = 0;
            int unit = units[k];
            for (int i = 0; i < sizes[k]; i++) {
                int kind = kinds[starts[k] + i];
                sum += line.dragOf(line.weightOf(kind), unit);
                unit -= line.longOf(kind);
            }
            return sum;
        }
    }

    /** The TRAIN now, and what parted from it. */
    private static final class Train {
        static final int MOVED = 0;
        static final int STALLED = 1;
        static final int LINE_ENDED = 2;

        final Row row = new Row();
        final Halves halves = new Halves();
        int runUp;

        void begin(Line line) {
            row.begin(line);
            halves.clear();
            runUp = 0;
        }

        void copyFrom(Train other) {
            row.copyFrom(other.row);
            halves.copyFrom(other.halves);
            runUp = other.runUp;
        }

        /** A MOVE, if it can be done. */
        int move(Line line, boolean sanded) {
            if (row.head + 1 >= line.units) {
                return LINE_ENDED;
            }
            row.head++;
            int left = runUp + line.pull - row.measure(line) + (sanded ? line.sand : 0);
            if (left < 0) {
                row.head--;
                return STALLED;
            }
            runUp = left;
            int place = row.partingPlace(line.wear);
            if (place == NONE) {
                row.addWear(row.size);
            } else {
                row.addWear(place);
                part(place);
            }
            row.takeOn(line);
            return MOVED;
        }

        /** It parts ahead of a WAGON; HELPERS behind stay with the HALF. */
        void part(int place) {
            halves.add(row, place);
            row.dropFrom(place);
        }
    }

    /** The ROWS of a PLAN. */
    private static final class Plan {
        private static final int MOST_ROWS = 30;
        private static final int MOST_BYTES = 400;

        /** The WORD's number and up to two NUMBERS of each ROW. */
        final int[] words = new int[MOST_ROWS];
        final int[] firsts = new int[MOST_ROWS];
        final int[] seconds = new int[MOST_ROWS];
        int size;

        void clear() {
            size = 0;
        }

        void copyFrom(Plan other) {
            System.arraycopy(other.words, 0, words, 0, MOST_ROWS);
            System.arraycopy(other.firsts, 0, firsts, 0, MOST_ROWS);
            System.arraycopy(other.seconds, 0, seconds, 0, MOST_ROWS);
            size = other.size;
        }

        /** It becomes what a text tells: how many ROWS; -1 less the place of a FAULT. */
        int read(Reader reader, int[] tape, int bytes) {
            reader.open(tape, bytes, MOST_BYTES);
            clear();
            reader.advance();
            for (int rows = 0; rows <= MOST_ROWS; rows++) {
                if (reader.isAtEnd() || !readRow(reader, reader.keyword())) {
                    break;
                }
                reader.advance();
            }
            return reader.answer(size);
        }

        private boolean readRow(Reader reader, int word) {
            boolean known = word == Reader.SAND || word >= Reader.GO && word <= Reader.REST;
            if (!known) {
                return reader.failHere(Reader.NO_TOKEN);
            }
            if (size >= MOST_ROWS) {
                return reader.failHere(Reader.TOO_MANY);
            }
            words[size] = word;
            if (word == Reader.GO || word == Reader.SAND) {
                if (!reader.nextNumber(1, MOST_UNITS)) {
                    return false;
                }
                firsts[size] = reader.value;
            }
            if (word == Reader.HELP || word == Reader.CUT) {
                if (!reader.nextNumber(0, MOST_WAGONS - 1)) {
                    return false;
                }
                firsts[size] = reader.value;
            }
            if (word == Reader.HELP) {
                if (!reader.nextNumber(1, MOST_PUSH)) {
                    return false;
                }
                seconds[size] = reader.value;
            }
            size++;
            return reader.nextCloses();
        }
    }

    /** The TOKENS of a text one by one, and its first FAULT. */
    private static final class Reader {
        static final int OTHER = 0;
        static final int WORD = 1;
        static final int NUMBER = 2;
        static final int SEMICOLON = 3;
        static final int MINUS = 4;
        static final int END = 5;

        static final int NO_TOKEN = 1;
        static final int WRONG_NUMBER = 2;
        static final int WRONG_NAME = 3;
        static final int TOO_MANY = 4;

        static final int SLOPE = 0;
        static final int HALT = 1;
        static final int LOOP = 2;
        static final int WAGON = 3;
        static final int ADDS = 4;
        static final int ENGINE = 5;
        static final int RUB = 6;
        static final int SAND = 7;
        static final int WEAR = 8;
        static final int WALK = 9;
        static final int TRAIN = 10;
        static final int GO = 11;
        static final int HELP = 12;
        static final int OFF = 13;
        static final int CUT = 14;
        static final int REST = 15;

        private static final int LONGEST_WORD = 7;
        private static final int LONGEST_NUMBER = 3;
        /** The WORDS by their numbers above, each filled up with blanks. */
        private static final String KEYWORDS =
                "slope  halt   loop   wagon  adds   engine rub    sand   wear   walk   train  go     help   off    cut    rest   ";

        private int[] text = new int[0];
        private int length;
        private int limit;
        private int next;
        int sort;
        int place;
        int value;
        /** The letters of a WORD, five bits each. */
        long letters;
        int fault;
        private int faultPlace;

        void open(int[] tape, int size, int most) {
            text = tape;
            length = Math.min(size, tape.length);
            limit = most;
            next = 0;
            fault = 0;
            faultPlace = 0;
        }

        /** Notes a FAULT; false, for its caller to hand on. */
        boolean fail(int kind, int where) {
            fault = kind;
            faultPlace = where;
            return false;
        }

        int answer(int rows) {
            return fault == 0 ? rows : -1 - faultPlace;
        }

        /** The next TOKEN: those that begin ahead of the limit are read whole. */
        void advance() {
            int bound = Math.min(length, limit);
            while (next < bound && (text[next] == ' ' || text[next] == '\n')) {
                next++;
            }
            if (next >= bound) {
                place = bound;
                sort = END;
                return;
            }
            place = next;
            int sign = text[next];
            if (isLetter(sign) || isDigit(sign)) {
                readRun();
                return;
            }
            next++;
            sort = sign == ';' ? SEMICOLON : sign == '-' ? MINUS : OTHER;
        }

        private void readRun() {
            letters = 0;
            value = 0;
            int digits = 0;
            while (next < length && (isLetter(text[next]) || isDigit(text[next]))) {
                if (isDigit(text[next])) {
                    value = value * 10 + text[next] - '0';
                    digits++;
                } else {
                    letters = letters * 32 + text[next] - 'a' + 1;
                }
                next++;
            }
            int size = next - place;
            if (digits == 0 && size <= LONGEST_WORD) {
                sort = WORD;
            } else {
                sort = digits == size && size <= LONGEST_NUMBER ? NUMBER : OTHER;
            }
        }

        private static boolean isLetter(int sign) {
            return sign >= 'a' && sign <= 'z';
        }

        private static boolean isDigit(int sign) {
            return sign >= '0' && sign <= '9';
        }

        /** Whether the text is read to its end; a longer one than may be has its FAULT here. */
        boolean isAtEnd() {
            if (sort != END) {
                return false;
            }
            if (length > limit) {
                fail(NO_TOKEN, limit);
            }
            return true;
        }

        /** The number of the WORD that the TOKEN is; NONE: none of those. */
        int keyword() {
            if (sort != WORD) {
                return NONE;
            }
            for (int k = SLOPE; k <= REST; k++) {
                if (isKeyword(k)) {
                    return k;
                }
            }
            return NONE;
        }

        private boolean isKeyword(int k) {
            for (int i = 0; i < LONGEST_WORD; i++) {
                int sign = place + i < next ? text[place + i] : ' ';
                if (sign != KEYWORDS.charAt(LONGEST_WORD * k + i)) {
                    return false;
                }
            }
            return true;
        }

        boolean failHere(int kind) {
            return fail(kind, place);
        }

        /** Whether the TOKEN is a NUMBER as told. */
        boolean isNumber(int least, int most) {
            if (sort != NUMBER) {
                return failHere(NO_TOKEN);
            }
            return value >= least && value <= most || failHere(WRONG_NUMBER);
        }

        boolean nextNumber(int least, int most) {
            advance();
            return isNumber(least, most);
        }

        /** Whether the TOKEN can be a NAME. */
        boolean isName() {
            return sort == WORD && keyword() == NONE || failHere(NO_TOKEN);
        }

        boolean nextName() {
            advance();
            return isName();
        }

        /** Whether the ROW closes here. */
        boolean nextCloses() {
            advance();
            return sort == SEMICOLON || failHere(NO_TOKEN);
        }
    }

    /** Reads the text of a LINE. */
    private static final class LineReader {
        private static final int MOST_BYTES = 900;
        private static final int MOST_SLOPES = 20;

        final Reader reader = new Reader();
        private final long[] haltNames = new long[MOST_HALTS];
        private final long[] kindNames = new long[MOST_KINDS];
        /** The LINE that is being read. */
        private Line line;
        private int slopes;
        /** A bit for each WORD that is told once and was. */
        private int told;

        /** How many ROWS; -1 less the place of a FAULT. */
        int read(int[] tape, int size, Line into) {
            reader.open(tape, size, MOST_BYTES);
            line = into;
            line.clear();
            slopes = 0;
            told = 0;
            int rows = 0;
            reader.advance();
            while (rows < MOST_BYTES && !reader.isAtEnd() && readRow(reader.keyword())) {
                rows++;
                reader.advance();
            }
            return reader.answer(rows);
        }

        private boolean readRow(int word) {
            switch (word) {
                case Reader.SLOPE: return readSlope() && reader.nextCloses();
                case Reader.HALT: return readHalt() && reader.nextCloses();
                case Reader.LOOP: return readLoop() && reader.nextCloses();
                case Reader.WAGON: return readKind() && reader.nextCloses();
                case Reader.ADDS: return readAdds() && reader.nextCloses();
                case Reader.ENGINE: return tellOnce(word) && readEngine() && reader.nextCloses();
                case Reader.RUB:
                case Reader.SAND:
                case Reader.WEAR:
                case Reader.WALK: return tellOnce(word) && readNumber(word) && reader.nextCloses();
                case Reader.TRAIN: return tellOnce(word) && readTrain();
                default: return reader.failHere(Reader.NO_TOKEN);
            }
        }

        private boolean tellOnce(int word) {
            if ((told >> word & 1) != 0) {
                return reader.failHere(Reader.WRONG_NAME);
            }
            told |= 1 << word;
            return true;
        }

        private boolean readSlope() {
            if (slopes >= MOST_SLOPES) {
                return reader.failHere(Reader.TOO_MANY);
            }
            slopes++;
            reader.advance();
            boolean falls = reader.sort == Reader.MINUS;
            if (falls) {
                reader.advance();
            }
            if (!reader.isNumber(0, 9)) {
                return false;
            }
            int grade = falls ? -reader.value : reader.value;
            if (!reader.nextNumber(1, 99)) {
                return false;
            }
            if (line.units + reader.value > MOST_UNITS) {
                return reader.failHere(Reader.TOO_MANY);
            }
            for (int i = 0; i < reader.value; i++) {
                line.grades[line.units + i] = grade;
            }
            line.units += reader.value;
            return true;
        }

        private boolean readHalt() {
            int h = line.haltCount;
            if (h >= MOST_HALTS) {
                return reader.failHere(Reader.TOO_MANY);
            }
            if (!nextNewName()) {
                return false;
            }
            haltNames[h] = reader.letters;
            int least = h == 0 ? 0 : line.haltAt(h - 1) + 1;
            if (!reader.nextNumber(least, line.units - 1)) {
                return false;
            }
            line.halts[3 * h] = reader.value;
            if (!reader.nextNumber(1, 99)) {
                return false;
            }
            line.halts[3 * h + 1] = reader.value;
            line.halts[3 * h + 2] = NONE;
            line.haltCount++;
            return true;
        }

        private boolean readLoop() {
            int k = line.loopCount;
            if (k >= MOST_LOOPS) {
                return reader.failHere(Reader.TOO_MANY);
            }
            if (!reader.nextNumber(0, line.units - 1)) {
                return false;
            }
            for (int i = 0; i < k; i++) {
                if (line.loops[2 * i] == reader.value) {
                    return reader.failHere(Reader.WRONG_NAME);
                }
            }
            line.loops[2 * k] = reader.value;
            if (!reader.nextNumber(1, 99)) {
                return false;
            }
            line.loops[2 * k + 1] = reader.value;
            line.loopCount++;
            return true;
        }

        private boolean readKind() {
            int k = line.kindCount;
            if (k >= MOST_KINDS) {
                return reader.failHere(Reader.TOO_MANY);
            }
            if (!nextNewName()) {
                return false;
            }
            kindNames[k] = reader.letters;
            if (!reader.nextNumber(1, 9)) {
                return false;
            }
            line.kinds[3 * k] = reader.value;
            if (!reader.nextNumber(1, 99)) {
                return false;
            }
            line.kinds[3 * k + 1] = reader.value;
            if (!reader.nextNumber(1, 999)) {
                return false;
            }
            line.kinds[3 * k + 2] = reader.value;
            line.kindCount++;
            return true;
        }

        private boolean readAdds() {
            if (!reader.nextName()) {
                return false;
            }
            int h = haltNamed(reader.letters);
            if (h == NONE || line.haltAdds(h) != NONE) {
                return reader.failHere(Reader.WRONG_NAME);
            }
            if (!reader.nextName()) {
                return false;
            }
            int k = kindNamed(reader.letters);
            if (k == NONE) {
                return reader.failHere(Reader.WRONG_NAME);
            }
            line.halts[3 * h + 2] = k;
            return true;
        }

        private boolean readEngine() {
            if (!reader.nextNumber(1, 999)) {
                return false;
            }
            line.pull = reader.value;
            if (!reader.nextNumber(1, 99)) {
                return false;
            }
            line.engineWeight = reader.value;
            return true;
        }

        private boolean readNumber(int word) {
            int least = word == Reader.RUB || word == Reader.SAND ? 0 : 1;
            int most = word == Reader.RUB || word == Reader.WALK ? 9 : 99;
            if (!reader.nextNumber(least, most)) {
                return false;
            }
            switch (word) {
                case Reader.RUB:
                    line.rub = reader.value;
                    break;
                case Reader.SAND:
                    line.sand = reader.value;
                    break;
                case Reader.WEAR:
                    line.wear = reader.value;
                    break;
                default:
                    line.walk = reader.value;
                    break;
            }
            return true;
        }

        /** 'train' closes its ROW itself: a KIND or the end of the ROW may come behind a KIND. */
        private boolean readTrain() {
            reader.advance();
            for (int i = 0; i <= MOST_FIRST; i++) {
                if (i > 0 && reader.sort == Reader.SEMICOLON) {
                    return true;
                }
                if (!reader.isName()) {
                    return false;
                }
                int k = kindNamed(reader.letters);
                if (k == NONE) {
                    return reader.failHere(Reader.WRONG_NAME);
                }
                if (i == MOST_FIRST) {
                    return reader.failHere(Reader.TOO_MANY);
                }
                line.first[i] = k;
                line.firstCount = i + 1;
                reader.advance();
            }
            return false;
        }

        private boolean nextNewName() {
            reader.advance();
            if (!reader.isName()) {
                return false;
            }
            boolean known = haltNamed(reader.letters) != NONE || kindNamed(reader.letters) != NONE;
            return !known || reader.failHere(Reader.WRONG_NAME);
        }

        private int haltNamed(long name) {
            return indexOf(name, haltNames, line.haltCount);
        }

        private int kindNamed(long name) {
            return indexOf(name, kindNames, line.kindCount);
        }

        private static int indexOf(long name, long[] names, int size) {
            for (int i = 0; i < size; i++) {
                if (names[i] == name) {
                    return i;
                }
            }
            return NONE;
        }
    }

    /** What is asked of the TRAIN at first as it goes FREE. */
    private static final class Free {
        private final Row row = new Row();
        int foundForce;
        int foundHead;
        int foundCoupling;
        int foundHeads;
        /** Where the COOK is: a WAGON, and UNITS of it that he still has to go on it. */
        private int cookWagon;
        private int cookWay;
        /** Of each load: how many WAGONS are at its PLATFORM (always the foremost ones). */
        private final int[] reached = new int[MOST_LOADS];
        /** Of each load: its WAGON. */
        final int[] carriers = new int[MOST_LOADS];
        int loadCount;

        /** The most or least that is borne from a to b; false: there are no WAGONS then. */
        boolean findBorne(Line line, int a, int b, boolean most) {
            row.travel(line, a);
            boolean found = false;
            for (int head = a; head <= b; head++) {
                row.head = head;
                row.measure(line);
                for (int i = 0; i < row.size; i++) {
                    int force = row.bears[i];
                    if (!found || (most ? force > foundForce : force < foundForce)) {
                        found = true;
                        foundForce = force;
                        foundHead = head;
                        foundCoupling = i;
                    }
                }
                row.takeOn(line);
            }
            return found;
        }

        /** HEADS at which the TRAIN stands from one UNIT to another: how many, the first. */
        void findSpan(Line line, int low, int high) {
            foundHeads = 0;
            foundHead = NONE;
            row.begin(line);
            for (int head = 0; head < line.units; head++) {
                row.head = head;
                row.takeOn(line);
                if (head >= high && head - row.total <= low) {
                    foundHeads++;
                    foundHead = foundHead == NONE ? head : foundHead;
                }
            }
        }

        /** To HEAD a, with what came on there. */
        private void start(Line line, int a) {
            row.travel(line, a);
            row.takeOn(line);
        }

        /** To the next HEAD: by how much RUN-UP is more there. */
        private int gainAt(int head, Line line) {
            row.head = head;
            return line.pull - row.measure(line);
        }

        int climbed(Line line, int a, int b, int e) {
            start(line, a);
            int runUp = e;
            for (int head = a + 1; head <= b; head++) {
                runUp += gainAt(head, line);
                if (runUp < 0) {
                    return head - 1;
                }
                row.takeOn(line);
            }
            return b;
        }

        int leastRunUp(Line line, int a, int b) {
            start(line, a);
            int runUp = 0;
            int least = 0;
            for (int head = a + 1; head <= b; head++) {
                runUp += gainAt(head, line);
                least = Math.max(least, -runUp);
                row.takeOn(line);
            }
            return least;
        }

        /** Sand in the first MOVES helps all that follow, so none need come later than it could. */
        int leastSand(Line line, int a, int b, int e) {
            start(line, a);
            int runUp = e;
            int units = 0;
            for (int head = a + 1; head <= b; head++) {
                runUp += gainAt(head, line);
                if (runUp < 0) {
                    if (line.sand <= 0) {
                        return NONE;
                    }
                    units = Math.max(units, (line.sand - 1 - runUp) / line.sand);
                    if (units > head - a) {
                        return NONE;
                    }
                }
                row.takeOn(line);
            }
            return units;
        }

        int helpfulWagons(Line line, int a, int b, int e, int push) {
            start(line, a);
            int wagons = row.size;
            int bits = 0;
            for (int i = 0; i < wagons; i++) {
                start(line, a);
                row.help(i, push);
                if (comesUnbroken(line, a, b, e)) {
                    bits |= 1 << i;
                }
            }
            return bits;
        }

        private boolean comesUnbroken(Line line, int a, int b, int e) {
            int runUp = e;
            for (int head = a + 1; head <= b; head++) {
                runUp += gainAt(head, line);
                if (runUp < 0 || row.isOverborne()) {
                    return false;
                }
                row.takeOn(line);
            }
            return true;
        }

        /** How many WAGONS are at a HALT's PLATFORM: the foremost ones, as all stand behind AT. */
        int wagonsAtPlatform(Line line, int h) {
            row.travel(line, line.haltAt(h));
            int units = 1;
            for (int i = 0; i < row.size; i++) {
                units += row.longs[i];
                if (units > line.haltLong(h)) {
                    return i;
                }
            }
            return row.size;
        }

        int roomNeeded(Line line, int h) {
            row.travel(line, line.haltAt(h));
            return row.size == 0 ? 0 : 1 + row.total;
        }

        boolean hasWagon(Line line, int i, int a) {
            start(line, a);
            return i >= 0 && i < row.size;
        }

        /** Minutes of the COOK from one WAGON to another, either way; NONE: he does not come there. */
        int minutes(Line line, int from, int to, int a) {
            start(line, a);
            if (from < 0 || from >= row.size) {
                return NONE;
            }
            cookWagon = from;
            cookWay = from < to ? row.longs[from] : 0;
            for (int head = a; head < line.units; head++) {
                row.head = head;
                row.takeOn(line);
                row.measure(line);
                if (cookComes(line.walk, to)) {
                    return head - a + 1;
                }
            }
            return NONE;
        }

        /** One minute of the COOK: going along takes his UNITS, going past a COUPLING takes none. */
        private boolean cookComes(int walk, int to) {
            int left = walk;
            for (int i = 0; i <= MOST_WAGONS; i++) {
                int goes = Math.min(left, cookWay);
                left -= goes;
                cookWay -= goes;
                if (cookWay > 0) {
                    return false;
                }
                if (cookWagon == to) {
                    return true;
                }
                if (!(cookWagon < to ? cookPassesBehind(to) : cookPassesAhead())) {
                    return false;
                }
            }
            return false;
        }

        /** At the foremost UNIT of the last WAGON his way has its end. */
        private boolean cookPassesBehind(int to) {
            if (!canPass(cookWagon + 1)) {
                return false;
            }
            cookWagon++;
            cookWay = cookWagon == to ? 0 : row.longs[cookWagon];
            return true;
        }

        private boolean cookPassesAhead() {
            if (!canPass(cookWagon)) {
                return false;
            }
            cookWagon--;
            cookWay = row.longs[cookWagon];
            return true;
        }

        private boolean canPass(int coupling) {
            return coupling > 0 && coupling < row.size
                    && row.bears[coupling] <= row.strengths[coupling] / 2;
        }

        /** Goods for the HALTS in a text: as many as can be, of like ones the first: how many. */
        int loadAll(Line line, int[] halts, int size) {
            for (int i = 0; i < size && i < MOST_LOADS; i++) {
                reached[i] = Math.min(line.firstCount, wagonsAtPlatform(line, halts[i]));
            }
            loadCount = size;
            int most = mostLoads(0, 0);
            int due = most;
            int used = 0;
            for (int i = 0; i < size; i++) {
                carriers[i] = leastCarrier(i, used, due);
                if (carriers[i] != NONE) {
                    used |= 1 << carriers[i];
                    due--;
                }
            }
            return most;
        }

        /** The least WAGON for a load with which as many as are due can be; NONE: none. */
        private int leastCarrier(int i, int used, int due) {
            for (int w = 0; w < reached[i]; w++) {
                if ((used >> w & 1) == 0 && mostLoads(i + 1, used | 1 << w) == due - 1) {
                    return w;
                }
            }
            return NONE;
        }

        /** As PLATFORMS reach foremost WAGONS, loads that reach fewest first get what they can. */
        private int mostLoads(int from, int used) {
            int most = 0;
            int open = 0;
            for (int reach = 1; reach <= MOST_FIRST; reach++) {
                open += 1 - (used >> (reach - 1) & 1);
                for (int i = from; i < loadCount; i++) {
                    if (reached[i] == reach && most < open) {
                        most++;
                    }
                }
            }
            return most;
        }
    }

    /** How long a TRAIN lives that parts but never stalls: by rules, by places, by bets. */
    private static final class Lives {
        private static final int PLACES = 4;

        /** A row for each number of places chosen, so that a search goes on where it branched. */
        private final Row[] rows = {new Row(), new Row(), new Row(), new Row(), new Row()};
        private final int[] places = new int[PLACES];
        final int[] bestPlaces = new int[PLACES];
        int bestCount;
        private int best;
        private int most;
        /** A row as it will be farther on, and the HEAD from which on each of its WAGONS is there. */
        private final Row ahead = new Row();
        private final int[] since = new int[MOST_WAGONS];
        /** The HEAD at which the latest row of places parted: the next one is likely to part there too. */
        private int deadlyHead;
        /** Of each number of UNITS from 0 on: their GRADES together. */
        private final int[] gradeSums = new int[MOST_UNITS + 1];
        /** For BETS: the least STRENGTH with which each COUPLING holds. */
        private final int[] leasts = new int[MOST_WAGONS];
        private int seed;

        /** A MOVE to a HEAD; false: it parts there. */
        private static boolean holdsAt(int head, Row row, Line line) {
            row.head = head;
            row.measure(line);
            if (row.partingPlace(line.wear) != NONE) {
                return false;
            }
            row.addWear(row.size);
            return true;
        }

        int haltsBy(int rule, Line line) {
            Row row = rows[0];
            row.begin(line);
            int halts = 0;
            for (int head = 1; head < line.units && holdsAt(head, row, line); head++) {
                int kind = row.arrive(line);
                if (kind != NONE) {
                    halts++;
                    row.insert(placeBy(rule, row, line.strengthOf(kind)), kind, line);
                }
            }
            return halts;
        }

        private static int placeBy(int rule, Row row, int strength) {
            if (rule == 1) {
                return 0;
            }
            int place = rule == 2 ? 0 : row.size;
            while (place < row.size && row.strengths[place] >= strength) {
                place++;
            }
            return place;
        }

        /** LONGEST: rows of places are tried in their order, so only a better one counts. */
        int findPlaces(Line line) {
            most = 0;
            for (int h = 0; h < line.haltCount; h++) {
                if (line.haltAt(h) > 0 && line.haltAdds(h) != NONE) {
                    most++;
                }
            }
            for (int unit = 0; unit < line.units; unit++) {
                gradeSums[unit + 1] = gradeSums[unit] + line.gradeOf(unit);
            }
            best = NONE;
            bestCount = 0;
            deadlyHead = NONE;
            rows[0].begin(line);
            search(line, 0, 0);
            return best;
        }

        private void search(Line line, int level, int haltsAhead) {
            Row row = rows[level];
            int halts = haltsAhead;
            if (halts <= best && !mayBeBetter(row, line, level, halts)) {
                return;
            }
            for (int head = row.head + 1; head < line.units; head++) {
                if (!holdsAt(head, row, line)) {
                    deadlyHead = head;
                    break;
                }
                int kind = row.arrive(line);
                if (kind != NONE) {
                    halts++;
                    if (level < PLACES) {
                        branch(line, level, halts, kind);
                        return;
                    }
                    row.insert(row.size, kind, line);
                }
            }
            if (halts > best) {
                best = halts;
                bestCount = level;
                System.arraycopy(places, 0, bestPlaces, 0, level);
            }
        }

        /** False only if it is sure, without all its MOVES, that it comes to no more HALTS than the best. */
        private boolean mayBeBetter(Row row, Line line, int level, int halts) {
            ahead.copyFrom(row);
            for (int i = 0; i < row.size; i++) {
                since[i] = row.head;
            }
            int missing = best + 1 - halts;
            for (int h = row.nextHalt; h < line.haltCount; h++) {
                int kind = line.haltAdds(h);
                if (kind == NONE) {
                    continue;
                }
                missing--;
                if (missing <= 0 || level < PLACES || ahead.size >= MOST_WAGONS) {
                    return !isWornBy(line.haltAt(h), line) && !isOverborneBy(line.haltAt(h), line);
                }
                since[ahead.size] = line.haltAt(h);
                ahead.insert(ahead.size, kind, line);
            }
            return false;
        }

        /** Whether all that a COUPLING bears ahead of a HEAD, taken together, is more WEAR than it holds. */
        private boolean isWornBy(int head, Line line) {
            int behind = ahead.total;
            int sum = 0;
            for (int i = ahead.size - 1; i >= 0; i--) {
                behind -= ahead.longs[i];
                int grades = gradesTo(head - 2 - behind, line) - gradesTo(since[i] - 1 - behind, line);
                sum += ahead.weights[i] * (grades + (head - 1 - since[i]) * line.rub);
                if (ahead.wears[i] + sum > line.wear * ahead.strengths[i]) {
                    return true;
                }
            }
            return false;
        }

        /** Whether a COUPLING bears too much at the deadly HEAD, if that is no farther than a HEAD. */
        private boolean isOverborneBy(int head, Line line) {
            if (deadlyHead <= ahead.head || deadlyHead > head) {
                return false;
            }
            int there = ahead.size;
            while (there > 0 && since[there - 1] >= deadlyHead) {
                there--;
            }
            ahead.dropFrom(there);
            ahead.head = deadlyHead;
            ahead.measure(line);
            return ahead.isOverborne();
        }

        private int gradesTo(int unit, Line line) {
            return unit < 0 ? 0 : gradeSums[Math.min(unit + 1, line.units)];
        }

        private void branch(Line line, int level, int halts, int kind) {
            if (level < 0 || level >= PLACES) {
                return;
            }
            for (int place = 0; place <= rows[level].size && best < most; place++) {
                places[level] = place;
                rows[level + 1].copyFrom(rows[level]);
                rows[level + 1].insert(place, kind, line);
                search(line, level + 1, halts);
            }
        }

        private int draw(int n) {
            seed = seed * 1103515245 + 12345;
            return n <= 0 ? 0 : (seed >>> 8) % n;
        }

        private int drawnStrength(int strength) {
            return strength - draw(strength / 4 + 1);
        }

        int betHead(Line line, int firstSeed) {
            Row row = rows[0];
            row.begin(line);
            seed = firstSeed;
            for (int i = 0; i < row.size; i++) {
                row.strengths[i] = drawnStrength(row.strengths[i]);
            }
            for (int head = 1; head < line.units; head++) {
                if (!holdsAt(head, row, line)) {
                    return head;
                }
                int old = row.size;
                row.takeOn(line);
                if (row.size > old) {
                    row.strengths[old] = drawnStrength(row.strengths[old]);
                }
            }
            return NONE;
        }

        int betsPartedBy(Line line, int n, int firstSeed, int unit) {
            findLeasts(line, unit);
            int parted = 0;
            for (int i = 0; i < n; i++) {
                seed = firstSeed + i;
                if (isParted(rows[0])) {
                    parted++;
                }
            }
            return parted;
        }

        /** Forces do not hang on a BET, so one ride tells what each COUPLING must hold. */
        private void findLeasts(Line line, int unit) {
            Row row = rows[0];
            row.begin(line);
            for (int i = 0; i < MOST_WAGONS; i++) {
                leasts[i] = 0;
            }
            for (int head = 1; head <= unit; head++) {
                row.head = head;
                row.measure(line);
                for (int i = 0; i < row.size; i++) {
                    int worn = line.wear <= 0 ? 0 : (row.wears[i] + line.wear - 1) / line.wear;
                    leasts[i] = Math.max(leasts[i], Math.max(row.bears[i], worn));
                }
                row.addWear(row.size);
                row.takeOn(line);
            }
        }

        private boolean isParted(Row row) {
            for (int i = 0; i < row.size; i++) {
                if (drawnStrength(row.strengths[i]) < leasts[i]) {
                    return true;
                }
            }
            return false;
        }
    }

    /** Does a PLAN row by row. */
    private static final class Judge {
        private static final int MOST_HELPERS = 4;
        private static final int NO_WAGON = 3;
        private static final int NO_HELPER = 4;
        private static final int HELPERS_FULL = 5;
        private static final int AT_REST = 6;

        final int[] told = new int[6];
        boolean hasRun;
        private int moves;
        private int sandUsed;

        /** The ROW that is WRONG; NONE: none. */
        int run(Plan plan, Line line, Train train) {
            moves = 0;
            sandUsed = 0;
            int why = 0;
            int done = 0;
            while (done < plan.size && why == 0) {
                why = runRow(plan.words[done], plan.firsts[done], plan.seconds[done], line, train);
                done++;
            }
            hasRun = true;
            told[0] = why;
            told[1] = moves;
            told[2] = sandUsed;
            told[3] = train.row.head;
            told[4] = train.row.size;
            told[5] = train.halves.size;
            return why == 0 ? NONE : done - 1;
        }

        /** Why a ROW is WRONG; 0: it is not. */
        private int runRow(int word, int first, int second, Line line, Train train) {
            switch (word) {
                case Reader.GO: return runMoves(first, false, line, train);
                case Reader.SAND: return runMoves(first, true, line, train);
                case Reader.HELP: return runHelp(first, second, train.row);
                case Reader.OFF: return runOff(train.row);
                case Reader.CUT: return runCut(first, train);
                default: return runRest(train);
            }
        }

        private int runMoves(int due, boolean sanded, Line line, Train train) {
            int why = Train.MOVED;
            for (int i = 0; i < due && why == Train.MOVED; i++) {
                why = train.move(line, sanded);
                if (why == Train.MOVED) {
                    moves++;
                    sandUsed += sanded ? 1 : 0;
                }
            }
            return why;
        }

        private static int runHelp(int wagon, int push, Row row) {
            if (wagon >= row.size) {
                return NO_WAGON;
            }
            if (row.helperCount() >= MOST_HELPERS) {
                return HELPERS_FULL;
            }
            row.help(wagon, push);
            return 0;
        }

        private static int runOff(Row row) {
            if (row.helperCount() == 0) {
                return NO_HELPER;
            }
            row.dismissHelpers();
            return 0;
        }

        private static int runCut(int wagon, Train train) {
            if (wagon >= train.row.size) {
                return NO_WAGON;
            }
            train.part(wagon);
            return 0;
        }

        private static int runRest(Train train) {
            if (train.runUp == 0) {
                return AT_REST;
            }
            train.runUp = 0;
            return 0;
        }
    }
}
