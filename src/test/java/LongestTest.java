import java.util.Random;

/**
 * Promises 22 and 23 with small numbers, so that what is borne and worn is often just what holds:
 * longest() and placed() against every row of places, one after the other.
 */
public final class LongestTest {
    private static final Checks C = new Checks();
    private static final int LINES = 12000;
    /** Rare ones: a row of places parts in the very MOVE in which it comes to a HALT that adds. */
    private static final long[] RARE = {570632, 587604};
    private static final int[] LONG = {1, 2, 3};

    private final Random dice;
    private final int[] grades;
    private final int[] weights = new int[3];
    private final int[] strengths = new int[3];
    private final int[] haltAt;
    private final int[] adds;
    private final int[] first;
    private final int rub;
    private final int wear;
    private int best = -1;
    private int[] bestPlaces = {};

    private LongestTest(long seed) {
        dice = new Random(seed);
        grades = new int[pick(12, 40)];
        for (int u = 0, grade = 0; u < grades.length; u++) {
            grade = u % 4 == 0 ? pick(-2, 3) : grade;
            grades[u] = grade;
        }
        for (int k = 0; k < 3; k++) {
            weights[k] = pick(1, 3);
            strengths[k] = pick(6, 30);
        }
        haltAt = new int[pick(2, 9)];
        adds = new int[haltAt.length];
        for (int h = 0, at = pick(0, 3); h < haltAt.length; h++, at += pick(1, 5)) {
            haltAt[h] = at;
            adds[h] = pick(-1, 2);
        }
        first = new int[pick(0, 3)];
        for (int i = 0; i < first.length; i++) {
            first[i] = pick(0, 2);
        }
        rub = pick(0, 2);
        wear = pick(0, 2) == 0 ? 99 : pick(1, 4);
    }

    private int pick(int least, int most) {
        return least + dice.nextInt(most - least + 1);
    }

    private String text() {
        StringBuilder s = new StringBuilder();
        for (int u = 0; u < grades.length; u += 4) {
            s.append("slope ").append(grades[u] < 0 ? "-" : "").append(Math.abs(grades[u]));
            s.append(' ').append(Math.min(4, grades.length - u)).append(';');
        }
        for (int k = 0; k < 3; k++) {
            s.append("wagon k").append((char) ('a' + k)).append(' ').append(LONG[k]).append(' ');
            s.append(weights[k]).append(' ').append(strengths[k]).append(';');
        }
        for (int h = 0; h < haltAt.length && haltAt[h] < grades.length; h++) {
            s.append("halt h").append((char) ('a' + h)).append(' ').append(haltAt[h]).append(" 9;");
            if (adds[h] >= 0) {
                s.append("adds h").append((char) ('a' + h)).append(" k").append((char) ('a' + adds[h])).append(';');
            }
        }
        for (int i = 0; i < first.length; i++) {
            s.append(i == 0 ? "train k" : " k").append((char) ('a' + first[i])).append(i == first.length - 1 ? ";" : "");
        }
        return s.append("rub ").append(rub).append(";wear ").append(wear).append(';').toString();
    }

    /** HALTS to which it comes with these places (others at the end); used[0]: how many of them came on. */
    private int ride(int[] places, int[] used) {
        int[] kinds = new int[20];
        int[] worn = new int[20];
        int size = first.length;
        System.arraycopy(first, 0, kinds, 0, size);
        int halts = 0;
        for (int head = 1; head < grades.length; head++) {
            int[] bears = new int[size];
            int unit = head - 1;
            for (int i = 0; i < size; i++) {
                int drag = weights[kinds[i]] * ((unit < 0 ? 0 : grades[unit]) + rub);
                for (int j = 0; j <= i; j++) {
                    bears[j] += drag;
                }
                unit -= LONG[kinds[i]];
            }
            for (int i = 0; i < size; i++) {
                if (bears[i] > strengths[kinds[i]] || worn[i] > wear * strengths[kinds[i]]) {
                    return halts;
                }
            }
            for (int i = 0; i < size; i++) {
                worn[i] += Math.max(0, bears[i]);
            }
            for (int h = 0; h < haltAt.length; h++) {
                if (haltAt[h] == head && adds[h] >= 0) {
                    int place = halts < places.length ? places[halts] : size;
                    System.arraycopy(kinds, place, kinds, place + 1, size - place);
                    System.arraycopy(worn, place, worn, place + 1, size - place);
                    kinds[place] = adds[h];
                    worn[place] = 0;
                    size++;
                    halts++;
                    used[0] = Math.min(halts, 4);
                }
            }
        }
        return halts;
    }

    private void tryAll(int[] places, int chosen) {
        if (chosen < places.length) {
            for (int p = 0; p <= first.length + chosen; p++) {
                places[chosen] = p;
                tryAll(places, chosen + 1);
            }
            return;
        }
        int[] used = {0};
        int halts = ride(places, used);
        if (halts > best) {
            best = halts;
            bestPlaces = java.util.Arrays.copyOf(places, used[0]);
        }
    }

    private void check(long seed) {
        tryAll(new int[4], 0);
        String text = text();
        LongTrain x = C.on(text);
        C.due("longest() of line " + seed + " (" + text + ")", x.longest(), best);
        for (int i = 0; i < 4; i++) {
            C.due("placed(" + i + ") of line " + seed, x.placed(i), i < bestPlaces.length ? bestPlaces[i] : -1);
        }
    }

    public static void main(String[] args) {
        for (long seed = 0; seed < LINES; seed++) {
            new LongestTest(seed).check(seed);
        }
        for (long seed : RARE) {
            new LongestTest(seed).check(seed);
        }
        C.close("LongestTest");
    }
}
