import java.lang.reflect.InvocationTargetException;
import java.lang.reflect.Method;
import java.lang.reflect.Modifier;
import java.util.ArrayList;
import java.util.Comparator;
import java.util.List;
import java.util.Random;

/** No call throws, whatever its arguments are and in whatever state; the same calls answer the same. */
public final class SafetyTest {
    private static final int[] EDGES = {
        Integer.MIN_VALUE, Integer.MIN_VALUE + 1, -700, -5, -4, -3, -2, -1, 0, 1, 2, 3, 4, 5, 9, 10, 11, 12, 13, 31, 32,
        40, 512, 699, 700, 701, 1023, 1024, 1 << 30, Integer.MAX_VALUE - 1, Integer.MAX_VALUE};
    private static final Check CHECK = new Check("SafetyTest");

    public static void main(String[] args) throws IllegalAccessException {
        List<Method> face = new ArrayList<>();
        for (Method m : CableElection.class.getDeclaredMethods()) {
            if (Modifier.isPublic(m.getModifiers())) {
                face.add(m);
            }
        }
        face.sort(Comparator.comparing(Method::getName));
        for (int seed = 0; seed < 600; seed++) {
            int one = run(face, seed);
            CHECK.due("the same run again, seed " + seed, run(face, seed), one);
        }
        CHECK.close();
    }

    private static int run(List<Method> face, int seed) throws IllegalAccessException {
        Random random = new Random(seed);
        CableElection x = new CableElection();
        int sum = 0;
        for (int call = 0; call < 400; call++) {
            int kind = random.nextInt(60);
            if (kind == 0) {
                x.end(0);
                Check.tell(x, new TextMaker(random).text());
                sum = 31 * sum + x.net();
            } else if (kind == 1) {
                byte[] noise = new byte[random.nextInt(701)];
                random.nextBytes(noise);
                x.end(0);
                Check.tell(x, noise);
                sum = 31 * sum + (random.nextBoolean() ? x.net() : x.packets());
            } else {
                Method m = face.get(random.nextInt(face.size()));
                Object[] numbers = new Object[m.getParameterCount()];
                for (int i = 0; i < numbers.length; i++) {
                    numbers[i] = random.nextInt(3) == 0 ? EDGES[random.nextInt(EDGES.length)] : random.nextInt(6);
                }
                sum = 31 * sum + answer(x, m, numbers);
            }
        }
        return sum;
    }

    private static int answer(CableElection x, Method m, Object[] numbers) throws IllegalAccessException {
        try {
            return (Integer) m.invoke(x, numbers);
        } catch (InvocationTargetException e) {
            CHECK.due(m.getName() + " threw " + e.getCause(), 1, 0);
            return 0;
        }
    }
}
