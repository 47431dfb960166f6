import java.lang.reflect.InvocationTargetException;
import java.lang.reflect.Method;
import java.util.Arrays;
import java.util.Comparator;

/** LANGUAGE.md, rule 7: no call throws, for any arguments, in empty, small and full towns. */
public final class NothingThrowsTest {
    private static final int CALLS = 512;
    private static final int[] INTS = {Integer.MIN_VALUE, -32, -1, 0, 1, 6, 7, 8, 40, Integer.MAX_VALUE};
    private static final int[] FEW_INTS = {Integer.MIN_VALUE, -1, 0, 7, Integer.MAX_VALUE};
    private static int wrong = 0;

    public static void main(String[] args) throws ReflectiveOperationException {
        Method[] methods = NeedsALoser.class.getDeclaredMethods();
        Arrays.sort(methods, Comparator.comparing(Method::getName));
        for (Method method : methods) {
            if (java.lang.reflect.Modifier.isPublic(method.getModifiers())) {
                for (int people = 0; people <= 7; people++) {
                    all(method, people);
                }
            }
        }
        System.out.println(wrong == 0 ? "nothing throws" : wrong + " calls throw");
        if (wrong != 0) {
            System.exit(1);
        }
    }

    /** As many BARGAINS as PEOPLE, if there are two at least. */
    private static NeedsALoser town(int people) {
        NeedsALoser x = new NeedsALoser();
        for (int i = 0; i < people; i++) {
            x.one();
        }
        for (int b = 0; b < people; b++) {
            x.bargain(b, (b + 1) % people, 9, b);
            x.hurts(b, (b + 2) % people, 3);
            x.hurts(b, (b + 3) % people, b);
        }
        x.rule(0, 1, 0);
        x.rule(1, 6, 99);
        x.row(6, 2, 7);
        x.row(7, 3, 40);
        x.set(7, 0, Long.MAX_VALUE);
        return x;
    }

    private static void all(Method method, int people) throws IllegalAccessException {
        Class<?>[] types = method.getParameterTypes();
        int[] ints = types.length > 3 ? FEW_INTS : INTS;
        int count = 1;
        for (int i = 0; i < types.length; i++) {
            count *= ints.length;
        }
        NeedsALoser x = null;
        int calls = CALLS;
        for (int k = 0; k < count; k++) {
            if (calls == CALLS) {
                x = town(people);
                // Making a full town takes fewer than these.
                calls = 40;
            }
            calls++;
            call(x, method, arguments(types, ints, k));
        }
    }

    private static Object[] arguments(Class<?>[] types, int[] ints, int which) {
        Object[] arguments = new Object[types.length];
        int rest = which;
        for (int i = 0; i < types.length; i++) {
            int v = ints[rest % ints.length];
            rest /= ints.length;
            if (types[i] == long.class) {
                arguments[i] = v == Integer.MIN_VALUE ? Long.MIN_VALUE : v == Integer.MAX_VALUE ? Long.MAX_VALUE : (long) v;
            } else if (types[i] == boolean.class) {
                arguments[i] = v > 0;
            } else {
                arguments[i] = v;
            }
        }
        return arguments;
    }

    private static void call(NeedsALoser x, Method method, Object[] arguments) throws IllegalAccessException {
        try {
            method.invoke(x, arguments);
        } catch (InvocationTargetException thrown) {
            wrong++;
            System.out.println(method.getName() + Arrays.toString(arguments) + " threw " + thrown.getCause());
        }
    }
}
