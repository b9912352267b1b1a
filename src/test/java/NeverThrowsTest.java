import java.lang.reflect.InvocationTargetException;
import java.lang.reflect.Method;
import java.lang.reflect.Modifier;
import java.util.Arrays;
import java.util.Comparator;
import java.util.List;
import java.util.Random;

/** Every call with every sort of argument, in many states: none throws, and a refusal is counted once. */
final class NeverThrowsTest {
    private static final int[] EDGES = {
        Integer.MIN_VALUE, Integer.MIN_VALUE + 1, -1000, -2, -1, 0, 1, 2, 3, 5, 7, 8, 9, 15, 16, 20, 30, 59, 60, 61,
        96, 99, 100, 112, 255, 256, 999, 1000, Integer.MAX_VALUE - 1, Integer.MAX_VALUE
    };
    private static final String[] TEXTS = {
        "pp0;pd1;pk2;pq3;px4;pw5;", "pw4;", "n3;w10;", "w60;w60;w60;w60;w60;", "o199;s01;", "b0;", "r0199;", "n0;", "w99", "pp0;px"
    };
    private static final Check check = new Check();

    public static void main(String[] args) throws Exception {
        check.promise("Any call in any state");
        List<Method> methods = Arrays.stream(SoManyForgotten.class.getDeclaredMethods())
            .filter(m -> Modifier.isPublic(m.getModifiers()))
            .sorted(Comparator.comparing(Method::getName)).toList();
        Random random = new Random(40);
        for (int run = 0; run < 300; run++) {
            SoManyForgotten x = new SoManyForgotten();
            for (int call = 0; call < 250; call++) {
                if (random.nextInt(20) == 0) {
                    Check.tell(x, TEXTS[random.nextInt(TEXTS.length)]);
                }
                callOne(x, methods.get(random.nextInt(methods.size())), random);
            }
        }
        check.finish();
    }

    private static void callOne(SoManyForgotten x, Method m, Random random) throws IllegalAccessException {
        Object[] arguments = new Object[m.getParameterCount()];
        for (int i = 0; i < arguments.length; i++) {
            arguments[i] = random.nextInt(3) == 0 ? EDGES[random.nextInt(EDGES.length)] : random.nextInt(8);
        }
        int before = refusals(x);
        try {
            long answer = ((Number) m.invoke(x, arguments)).longValue();
            int due = isRefusal(m, answer) ? 1 : 0;
            if (refusals(x) - before != due) {
                tell(m, arguments, "answered " + answer + " and counted " + (refusals(x) - before) + " refusals");
            }
        } catch (InvocationTargetException e) {
            tell(m, arguments, "threw " + e.getCause());
        }
    }

    private static boolean isRefusal(Method m, long answer) {
        if (m.getReturnType() == long.class) {
            return answer > 4000000000000000000L;
        }
        return answer >= -6 && answer <= -1;
    }

    private static int refusals(SoManyForgotten x) {
        int all = 0;
        for (int what = 11; what <= 16; what++) {
            all += x.count(what);
        }
        return all;
    }

    private static void tell(Method m, Object[] arguments, String text) {
        check.tell(m.getName() + Arrays.toString(arguments) + " " + text);
    }
}
