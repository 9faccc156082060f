import java.lang.reflect.InvocationTargetException;
import java.lang.reflect.Method;
import java.util.Arrays;
import java.util.Comparator;
import java.util.List;
import java.util.Random;

/** Any arguments in any state: a call answers, or throws just what its throws clause names. */
public final class WildTest {
    private static final int[] NUMBERS = {Integer.MIN_VALUE, -61, -60, -2, -1, 0, 1, 2, 3, 4, 5, 7, 8, 9, 10, 13, 14, 29,
        30, 31, 40, 41, 44, 48, 59, 60, 61, 119, 120, 121, 126, 127, 65535, 65536, Integer.MAX_VALUE};

    private static Object wild(Class<?> type, Random random) {
        if (type == boolean.class) {
            return random.nextBoolean();
        }
        if (type == long.class) {
            return random.nextInt(4) == 0 ? random.nextLong() : (1L << random.nextInt(64)) | (1L << random.nextInt(8));
        }
        int lot = random.nextInt(10);
        if (lot == 0) {
            return random.nextInt();
        }
        return lot < 6 ? random.nextInt(lot < 4 ? 4 : 62) : NUMBERS[random.nextInt(NUMBERS.length)];
    }

    private static boolean isNamed(Method m, Throwable thrown) {
        return List.of(m.getExceptionTypes()).contains(thrown.getClass());
    }

    public static void main(String[] args) throws Exception {
        Method[] all = Layerboard.class.getDeclaredMethods();
        Method[] face = Arrays.stream(all).filter(m -> (m.getModifiers() & 1) == 1).toArray(Method[]::new);
        Arrays.sort(face, Comparator.comparing(Method::getName));
        Random random = new Random(2026);
        int wrong = 0;
        int threw = 0;
        int calls = 0;
        for (int run = 0; run < 300; run++) {
            Layerboard b = new Layerboard();
            b.sample(0, random.nextInt(65536), 6);
            for (int i = 0; i < 600; i++) {
                Method m = face[random.nextInt(face.length)];
                Object[] given = new Object[m.getParameterCount()];
                for (int k = 0; k < given.length; k++) {
                    given[k] = wild(m.getParameterTypes()[k], random);
                }
                calls++;
                try {
                    m.invoke(b, given);
                } catch (InvocationTargetException e) {
                    threw++;
                    if (!isNamed(m, e.getCause())) {
                        wrong++;
                        System.out.println(m.getName() + Arrays.toString(given) + " threw " + e.getCause());
                    }
                }
            }
            if (!b.isSound()) {
                wrong++;
                System.out.println("run " + run + " is not sound");
            }
        }
        System.out.println("WildTest: " + calls + " calls, " + threw + " threw, " + wrong + " wrong");
        System.exit(wrong == 0 ? 0 : 1);
    }
}
