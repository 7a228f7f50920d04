import java.lang.reflect.Method;
import java.lang.reflect.Modifier;
import java.util.Arrays;
import java.util.Random;

/** No call throws, whatever its arguments, and behind the 512th call of an object as well, when answers are free. */
public final class WildTest {
    private static final int[] EDGES = {Integer.MIN_VALUE, Integer.MIN_VALUE + 1, -100, -2, -1, 0, 1, 2, 3, 4, 5, 6, 7,
        8, 9, 10, 11, 12, 13, 20, 21, 40, 59, 60, 99, 120, 200, 201, 400, 401, 4095, 4096, Integer.MAX_VALUE};

    private static Object argument(Class<?> type, Random random) {
        if (type == boolean.class) return random.nextBoolean();
        if (type == long.class) return random.nextLong();
        return random.nextInt(3) == 0 ? random.nextInt(13) : EDGES[random.nextInt(EDGES.length)];
    }

    private static void run(int seed, Method[] calls) throws Exception {
        Random random = new Random(seed);
        OneWire x = new OneWire();
        for (int k = 0; k < 3000; k++) {
            Method call = calls[random.nextInt(calls.length)];
            Object[] arguments = new Object[call.getParameterCount()];
            for (int a = 0; a < arguments.length; a++) arguments[a] = argument(call.getParameterTypes()[a], random);
            try {
                call.invoke(x, arguments);
            } catch (java.lang.reflect.InvocationTargetException e) {
                Due.is(call.getName() + Arrays.toString(arguments) + " threw " + e.getCause(), 1, 0);
                return;
            }
        }
    }

    /** Tapes of all bytes, and of those that rules have. */
    private static void tapes() {
        Random random = new Random(5);
        String signs = "firstduewokclngalh 0123456789=<>|&!();";
        for (int k = 0; k < 2000; k++) {
            OneWire x = new OneWire();
            int size = random.nextInt(121);
            for (int n = 0; n < size; n++) {
                x.feed(k % 2 == 0 ? random.nextLong() : signs.charAt(random.nextInt(signs.length())), 1);
            }
            int got = x.text(0);
            Due.is("a fault is within the tape", got == 0 || got <= -10 && got >= -10 - size ? 1 : 0, 1);
        }
    }

    public static void main(String[] args) throws Exception {
        Method[] calls = Arrays.stream(OneWire.class.getDeclaredMethods())
            .filter(m -> Modifier.isPublic(m.getModifiers())).toArray(Method[]::new);
        Arrays.sort(calls, (a, b) -> a.getName().compareTo(b.getName()));
        Due.is("methods of the face", calls.length, 35);
        for (int seed = 0; seed < 300; seed++) run(seed, calls);
        tapes();
        Due.end();
    }
}
