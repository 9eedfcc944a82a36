import java.lang.reflect.InvocationTargetException;
import java.lang.reflect.Method;
import java.lang.reflect.Modifier;
import java.util.ArrayList;
import java.util.Arrays;
import java.util.Comparator;
import java.util.List;
import java.util.Random;

/** Any calls with any numbers: nothing is thrown but what the call's face tells, and like calls answer alike. */
public final class AnyCallsTest {
    private static final int[] EDGES = {0, 1, 2, 3, 4, 5, 9, 10, 11, 39, 40, 99, 100, 400, 999, 1000, 4000, 9999, 10_000, 60_000, 60_001,
        99_999, 100_000, 9_999_999, Integer.MAX_VALUE};
    private static final String SIGNS = "stand 0 gap in+out*(press-gauge)/aim<tick;late 1;drift not and or unless wear pull hard 12=\n#";

    public static void main(String[] args) throws IllegalAccessException {
        List<Method> face = new ArrayList<>();
        for (Method method : RollMill.class.getDeclaredMethods()) {
            if (Modifier.isPublic(method.getModifiers())) {
                face.add(method);
            }
        }
        face.sort(Comparator.comparing(Method::getName));
        for (int seed = 0; seed < 1500; seed++) {
            List<Object> first = answers(face, seed);
            Check.holds("the same calls answer the same, seed " + seed, first.equals(answers(face, seed)));
        }
        Check.end("AnyCallsTest");
    }

    private static List<Object> answers(List<Method> face, int seed) throws IllegalAccessException {
        Random random = new Random(seed);
        RollMill mill = new RollMill();
        List<Object> answers = new ArrayList<>();
        if (seed % 4 > 0) {
            prepare(mill, random);
        }
        for (int call = 0; call < 400; call++) {
            Method method = face.get(random.nextInt(face.size()));
            Object[] told = new Object[method.getParameterCount()];
            for (int i = 0; i < told.length; i++) {
                told[i] = number(random, method.getParameterTypes()[i], method.getName().equals("feed"));
            }
            try {
                answers.add(String.valueOf(method.invoke(mill, told)));
            } catch (InvocationTargetException thrown) {
                Class<?> kind = thrown.getCause().getClass();
                answers.add(kind.getName());
                Check.holds(method.getName() + Arrays.toString(told) + " throws " + kind + ", seed " + seed,
                        Arrays.asList(method.getExceptionTypes()).contains(kind));
            }
        }
        return answers;
    }

    /** A mill at which most calls find something. */
    private static void prepare(RollMill mill, Random random) {
        for (int i = 0; i < 1 + random.nextInt(5); i++) {
            mill.stand(1 + random.nextInt(999), random.nextInt(9) == 0 ? 5000 : 9_999_999, 0, 100 + random.nextInt(5000), 50, 9 + i, 500, i);
            mill.point(50 * (i + 1), 700 * (i + 1) * (i + 1));
            mill.order(1 + random.nextInt(9), 1 + random.nextInt(900), 5, 20);
            mill.pass(1 + random.nextInt(900));
            mill.reading(random.nextInt(3), i, 1 + random.nextInt(900));
        }
        for (int i = 0; i < random.nextInt(20); i++) {
            mill.segment(1 + random.nextInt(3000), 1 + random.nextInt(99));
        }
        Check.rules(mill, "stand 0 gap gap-gauge+aim unless gauge=0 or pull<0-5;late 1;drift 2;tear 500;loop 500;");
        mill.evenings(3);
    }

    private static Object number(Random random, Class<?> type, boolean asText) {
        if (type == boolean.class) {
            return random.nextBoolean();
        }
        if (type == long.class) {
            long near = random.nextInt(1000) | (long) (1000 + random.nextInt(1000)) << 17 | (long) (2000 + random.nextInt(1000)) << 34;
            return random.nextBoolean() ? near : random.nextLong();
        }
        if (asText) {
            int four = 0;
            for (int i = 0; i < 4; i++) {
                four = four << 8 | SIGNS.charAt(random.nextInt(SIGNS.length()));
            }
            return four;
        }
        switch (random.nextInt(6)) {
            case 0:
                return EDGES[random.nextInt(EDGES.length)];
            case 1:
                return -EDGES[random.nextInt(EDGES.length)] - random.nextInt(2);
            case 2:
                return random.nextInt();
            case 3:
                return random.nextInt(1000);
            default:
                return random.nextInt(6);
        }
    }
}
