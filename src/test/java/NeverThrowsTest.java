import java.lang.reflect.InvocationTargetException;
import java.lang.reflect.Method;
import java.lang.reflect.Modifier;
import java.util.ArrayList;
import java.util.Arrays;
import java.util.Comparator;
import java.util.List;
import java.util.NoSuchElementException;
import java.util.Random;

/** Every call of the face with numbers from everywhere, in every state: only jar() and row() throw, and one thing alone. */
public final class NeverThrowsTest {
    private static final int OBJECTS = 400;
    private static final int CALLS = 512;
    private static final int[] EDGES = {Integer.MIN_VALUE, Integer.MIN_VALUE + 1, -1001, -3, -2, -1, 0, 1, 2, 3, 5, 6, 7, 8,
        9, 10, 40, 59, 60, 61, 76, 80, 99, 100, 199, 200, 201, 999, 1000, 8101, 9999, Integer.MAX_VALUE};
    private static final String SIGNS = "0123456789/,>;*dpbws()jl+-<=x";

    public static void main(String[] args) throws IllegalAccessException {
        Random random = new Random(48);
        List<Method> calls = new ArrayList<>();
        for (Method method : JarsThatLeak.class.getDeclaredMethods()) {
            if (Modifier.isPublic(method.getModifiers())) {
                calls.add(method);
            }
        }
        calls.sort(Comparator.comparing(Method::getName));
        for (int i = 0; i < OBJECTS; i++) {
            JarsThatLeak x = new JarsThatLeak();
            for (int jars = 0; jars < i % 10; jars++) {
                int height = random.nextInt(10);
                Check.town(x, (1 + random.nextInt(60)) + "/0," + random.nextInt(10) + "," + random.nextInt(6) + "," + height);
                x.spring(jars, random.nextInt(7), 1 + random.nextInt(60));
                x.below(jars, random.nextInt(9));
            }
            for (int k = 0; k < CALLS - 40; k++) {
                call(x, calls.get(random.nextInt(calls.size())), random);
            }
        }
        Check.finish();
    }

    private static void call(JarsThatLeak x, Method method, Random random) throws IllegalAccessException {
        Object[] numbers = new Object[method.getParameterCount()];
        for (int i = 0; i < numbers.length; i++) {
            numbers[i] = random.nextInt(3) == 0 ? EDGES[random.nextInt(EDGES.length)] : random.nextInt(10);
        }
        if (method.getName().equals("sign") && random.nextInt(4) > 0) {
            int v = 0;
            for (int i = 0; i < 4; i++) {
                v = v << 8 | SIGNS.charAt(random.nextInt(SIGNS.length()));
            }
            numbers[0] = v;
        }
        boolean may = method.getExceptionTypes().length > 0;
        boolean well = true;
        try {
            method.invoke(x, numbers);
        } catch (InvocationTargetException e) {
            well = may && e.getCause().getClass() == NoSuchElementException.class;
        }
        Check.due(method.getName() + Arrays.toString(numbers) + " throws what it must not", !well, false);
    }
}
