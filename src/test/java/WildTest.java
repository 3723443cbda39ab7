import java.lang.reflect.InvocationTargetException;
import java.lang.reflect.Method;
import java.lang.reflect.Modifier;
import java.util.Arrays;
import java.util.NoSuchElementException;
import java.util.Random;

/** Any arguments in any state: nothing but what is told reaches the caller, and no call goes on for ever. */
public final class WildTest {
    private static final int[] EDGES = {Integer.MIN_VALUE, Integer.MAX_VALUE, -1000, -999, -2, -1, 0, 1, 2, 3, 4, 7, 8, 9, 10,
        19, 20, 29, 99, 199, 200, 201, 399, 400, 401, 999, 1000, 9999, 10000, 99999, 100000};
    private static final String[] LINES = {
        "",
        "slope 0 1;",
        "wagon a 9 99 1;train a a a a a a a a;rub 9;",
        "slope 9 99;slope-9 99;slope 9 99;slope-9 99;slope 9 4;wagon a 9 99 999;wagon b 1 1 1;halt z 1 1;",
        "slope-9 99;slope 0 99;halt h 0 99;halt i 1 1;halt j 2 99;halt k 5 50;halt l 9 9;halt m 20 30;halt n 50 99;halt o 99 99;"
            + "halt p 150 80;halt q 197 99;loop 0 99;loop 197 1;wagon a 9 99 999;wagon b 1 1 999;adds h a;adds i a;adds j b;"
            + "adds k a;adds l b;adds m a;adds n a;adds o a;adds p b;adds q b;train a b a b a b a b;engine 999 1;wear 99;walk 9;sand 99;"};
    private static final String[] PLANS = {"", "go 400;", "help 0 999;help 7 999;help 19 1;", "sand 3;cut 2;go 5;cut 0;rest;",
        "help 1 500;go 9;off;cut 5;go 60;cut 3;go 99;cut 1;"};

    public static void main(String[] args) throws IllegalAccessException {
        Checks c = new Checks();
        Random dice = new Random(7);
        Method[] methods = LongTrain.class.getDeclaredMethods();
        Arrays.sort(methods, (a, b) -> a.getName().compareTo(b.getName()));
        for (int run = 0; run < 300; run++) {
            LongTrain x = new LongTrain();
            Checks.line(x, LINES[run % LINES.length]);
            c.due("fault() of LINE " + run % LINES.length, x.fault(), 0);
            for (int i = 0; i < 400; i++) {
                if (dice.nextInt(12) == 0) {
                    Checks.plan(x, PLANS[dice.nextInt(PLANS.length)]);
                    x.judge(dice.nextInt(2));
                }
                Method m = methods[dice.nextInt(methods.length)];
                if (Modifier.isPublic(m.getModifiers()) && !(m.getName().equals("line") && dice.nextInt(9) > 0)) {
                    ask(c, x, m, dice);
                }
            }
        }
        c.close("WildTest");
    }

    private static void ask(Checks c, LongTrain x, Method m, Random dice) throws IllegalAccessException {
        Object[] told = new Object[m.getParameterCount()];
        for (int i = 0; i < told.length; i++) {
            told[i] = dice.nextInt(3) == 0 ? EDGES[dice.nextInt(EDGES.length)] : dice.nextInt(dice.nextInt(200) + 1);
        }
        try {
            m.invoke(x, told);
        } catch (InvocationTargetException e) {
            boolean may = Arrays.asList(m.getExceptionTypes()).contains(NoSuchElementException.class)
                    && e.getCause().getClass() == NoSuchElementException.class;
            c.due(m.getName() + Arrays.toString(told) + " threw " + e.getCause(), may, true);
        }
    }
}
