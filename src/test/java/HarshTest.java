import java.lang.reflect.InvocationTargetException;
import java.lang.reflect.Method;
import java.util.Arrays;
import java.util.Comparator;
import java.util.Random;

/** Any arguments in any state: no call throws, and the same calls always answer the same. */
public final class HarshTest {
    private static final int RUNS = 400;
    private static final int CALLS = 512;
    private static final int[] NUMBERS = {Integer.MIN_VALUE, Integer.MIN_VALUE + 10, -1000000, -1000, -3, -2, -1, 0, 0, 0, 0, 1, 1, 1, 2, 3, 4,
        5, 6, 7, 8, 9, 10, 11, 12, 13, 14, 15, 20, 21, 22, 25, 30, 31, 41, 42, 59, 60, 61, 100, 105, 159, 160, 599, 600, 601, 1000000,
        Integer.MAX_VALUE - 10, Integer.MAX_VALUE};
    private static final String[] TEXTS = {
        Check.TOWN, "", "hours 12;person 1;person 1;person 1;person 1;person 1;person 1;gain 5 99 twice;loss 4 99 undone;does 5 11 5;"
            + "does 0 0 4;lot 3 3 0;lot 2 9 9;", "hours 2;person 0;lot 0 0 0;lot 0 1 0;does 0 0 0;gain 0 1 undone;", "stuck 11;stuck 0;stuck 1;",
        "stuck 0;stuck 0;stuck 0;stuck 0;stuck 0;stuck 0;stuck 0;stuck 0;", "errand 0 0 11;errand 1 0 11;errand 2 0 11;errand 3 0 11;",
        "errand 5 11 11;", "train 0 9;train 11 9;train 0 1;", "train 3 1;", "has 3 5 3;has 1 0 1;", "owes 2 0 0;", "has 1 0 1", "hours 1;"};
    private static final Check CHECK = new Check("HarshTest");

    public static void main(String[] args) throws Exception {
        Method[] methods = Arrays.stream(GluedHour.class.getDeclaredMethods())
            .filter(m -> java.lang.reflect.Modifier.isPublic(m.getModifiers())).toArray(Method[]::new);
        Arrays.sort(methods, Comparator.comparing(Method::getName));
        for (int seed = 0; seed < RUNS; seed++) {
            long first = run(methods, seed);
            CHECK.due("run " + seed + " again", run(methods, seed), first);
        }
        CHECK.end();
    }

    private static long run(Method[] methods, int seed) throws Exception {
        Random random = new Random(seed);
        GluedHour x = new GluedHour();
        long all = 0;
        int calls = 0;
        while (calls < CALLS - 40) {
            if (random.nextInt(12) == 0) {
                String text = TEXTS[random.nextInt(TEXTS.length)];
                Check.tape(x, text);
                all = all * 31 + x.text(random.nextInt(5), random.nextInt(3) - 1);
                calls += 3 + (text.length() + 19) / 20;
            }
            Method m = methods[random.nextInt(methods.length)];
            Object[] given = new Object[m.getParameterCount()];
            for (int i = 0; i < given.length; i++) {
                boolean flag = m.getParameterTypes()[i] == boolean.class;
                given[i] = flag ? (Object) random.nextBoolean() : (Object) NUMBERS[random.nextInt(NUMBERS.length)];
            }
            try {
                all = all * 31 + m.invoke(x, given).hashCode();
            } catch (InvocationTargetException e) {
                CHECK.due(m.getName() + Arrays.toString(given) + " threw " + e.getCause(), 1, 0);
            }
            calls++;
        }
        return all;
    }
}
