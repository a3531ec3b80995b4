import java.lang.reflect.InvocationTargetException;
import java.lang.reflect.Method;
import java.util.Arrays;
import java.util.Comparator;
import java.util.List;
import java.util.Random;

/** Any calls in any order with any arguments: what they throw is what the face declares, to the very class. */
final class WildTest {
    private static final int OBJECTS = 400;
    // and some thirty that feed the text: 512 in all
    private static final int CALLS = 480;
    private static final int[] NUMBERS = {Integer.MIN_VALUE, Integer.MIN_VALUE + 1, -500, -2, -1, 0, 1, 2, 3, 4, 5, 6,
        7, 8, 9, 10, 11, 12, 15, 16, 17, 99, 100, 199, 200, 280, 281, 300, 301, 500, 501, 1000, 65536,
        Integer.MAX_VALUE - 1, Integer.MAX_VALUE};

    public static void main(String[] args) throws IllegalAccessException {
        Method[] methods = Arrays.stream(BarrierFlow.class.getDeclaredMethods())
                .filter(m -> java.lang.reflect.Modifier.isPublic(m.getModifiers())).toArray(Method[]::new);
        Arrays.sort(methods, Comparator.comparing(Method::getName));
        int wrong = 0;
        for (int seed = 0; seed < OBJECTS; seed++) {
            wrong += callAll(methods, new Random(seed), seed);
        }
        int all = wrong;
        Check.due("calls that threw what they do not declare", 0, () -> all);
        Check.end("WildTest");
    }

    private static int callAll(Method[] methods, Random random, int seed) throws IllegalAccessException {
        BarrierFlow flow = new BarrierFlow();
        if (seed % 4 != 0) {
            Flows.parse(flow, "source a records " + random.nextInt(201) + " seed 8;source b records 200 seed 999 lag 9;"
                    + "source c records 77 seed 5 lag 1;source d records 200 seed 1;room " + (1 + random.nextInt(9))
                    + ";instances " + (1 + random.nextInt(4)) + ";sinks " + (1 + random.nextInt(2)) + ";every "
                    + random.nextInt(20) + (seed % 2 == 0 ? ";overtake;" : ";"));
        }
        int wrong = 0;
        for (int n = 0; n < CALLS; n++) {
            Method m = methods[random.nextInt(methods.length)];
            Object[] values = new Object[m.getParameterCount()];
            for (int i = 0; i < values.length; i++) {
                values[i] = m.getParameterTypes()[i] == boolean.class ? (Object) random.nextBoolean()
                        : (Object) (random.nextInt(4) == 0 ? NUMBERS[random.nextInt(NUMBERS.length)] : random.nextInt(7));
            }
            try {
                m.invoke(flow, values);
            } catch (InvocationTargetException e) {
                List<Class<?>> declared = Arrays.asList(m.getExceptionTypes());
                if (!declared.contains(e.getCause().getClass())) {
                    wrong++;
                    System.out.println("object " + seed + ": " + m.getName() + Arrays.toString(values) + " threw "
                            + e.getCause());
                }
            }
        }
        return wrong;
    }
}
