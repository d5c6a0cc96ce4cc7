import java.lang.reflect.InvocationTargetException;
import java.lang.reflect.Method;
import java.lang.reflect.Modifier;
import java.util.ArrayList;
import java.util.Comparator;
import java.util.List;
import java.util.Random;

/** Any call with any arguments in any state answers; only element throws, and only what it promises. */
public final class WildCallsTest {
    private static final Check CHECK = new Check("WildCallsTest");
    private static final int[] EDGES = {
        Integer.MIN_VALUE, Integer.MIN_VALUE + 1, -65536, -100, -2, -1, 0, 1, 2, 3, 4, 5, 6, 7, 8, 9, 10, 11, 12, 13,
        24, 25, 26, 31, 32, 33, 40, 41, 99, 100, 101, 255, 256, 65535, 65536, Integer.MAX_VALUE - 1, Integer.MAX_VALUE,
    };

    public static void main(String[] args) {
        List<Method> calls = new ArrayList<>();
        for (Method method : Ships.class.getDeclaredMethods()) {
            boolean isOfTheFace = !Modifier.isPrivate(method.getModifiers()) && !method.getName().equals("left");
            if (isOfTheFace) {
                calls.add(method);
            }
        }
        CHECK.due("calls of the face", calls.size(), 32);
        // the machine tells them in no fixed order
        calls.sort(Comparator.comparing(Method::getName));
        for (int seed = 0; seed < 400; seed++) {
            run(calls, new Random(seed));
        }
        CHECK.end();
    }

    private static void run(List<Method> calls, Random random) {
        Ships sea = new Ships();
        if (random.nextInt(4) != 0) {
            Sea.read(sea, "s12;s34;s51;" + Sea.repeated("m001;m112;", random.nextInt(6)) + "m233;");
        }
        for (int d = 0; d < 4; d++) {
            sea.row(d, random.nextInt(2) * random.nextInt(3), random.nextInt(30));
        }
        for (int i = sea.left(); i > 0; i--) {
            Method call = calls.get(random.nextInt(calls.size()));
            Object[] arguments = new Object[call.getParameterCount()];
            for (int a = 0; a < arguments.length; a++) {
                arguments[a] = random.nextInt(3) == 0 ? EDGES[random.nextInt(EDGES.length)] : random.nextInt(6);
            }
            CHECK.holds(call + " " + java.util.Arrays.toString(arguments), answers(sea, call, arguments));
        }
    }

    private static boolean answers(Ships sea, Method call, Object[] arguments) {
        try {
            call.invoke(sea, arguments);
            return true;
        } catch (InvocationTargetException thrown) {
            Class<?> type = thrown.getCause().getClass();
            return call.getName().equals("element")
                && (type == IllegalArgumentException.class || type == IllegalStateException.class);
        } catch (IllegalAccessException unseen) {
            return false;
        }
    }
}
