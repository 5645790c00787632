import java.lang.reflect.InvocationTargetException;
import java.lang.reflect.Method;
import java.lang.reflect.Modifier;
import java.util.Arrays;
import java.util.Random;

/** LANGUAGE.md, rule 7: no call ever throws, for any arguments in any state (all promises, numbers at and beyond all limits). */
public final class ExtremesTest {
    private static final Due DUE = new Due("ExtremesTest");
    private static final int[] NUMBERS = {Due.LOWEST, Due.LOWEST + 1, Due.NONE, -100000, -65536, -25, -2, -1, 0, 1, 2, 3, 4, 5, 6,
        9, 10, 12, 13, 14, 15, 23, 24, 25, 29, 30, 31, 40, 41, 48, 49, 60, 61, 95, 96, 97, 99, 100, 101, 999, 1000, 65535, 99999,
        100000, Due.HIGHEST - 1, Due.HIGHEST};
    // Behind so many calls an object is out of use.
    private static final int CALLS = 400;

    private static WhiteSlope object = new WhiteSlope();
    private static int used;
    private static int made;

    public static void main(String[] args) throws IllegalAccessException {
        Method[] methods = Arrays.stream(WhiteSlope.class.getDeclaredMethods())
            .filter(m -> Modifier.isPublic(m.getModifiers())).toArray(Method[]::new);
        DUE.is("methods of the face", methods.length, 40);
        Arrays.sort(methods, (a, b) -> a.getName().compareTo(b.getName()));
        for (Method method : methods) {
            if (method.getParameterCount() <= 2) {
                each(method, new Object[method.getParameterCount()], 0);
            } else {
                byLot(method);
            }
        }
        mixed(methods);
        DUE.end();
    }

    private static void each(Method method, Object[] arguments, int from) throws IllegalAccessException {
        if (from == arguments.length) {
            call(method, arguments);
            return;
        }
        for (int number : NUMBERS) {
            arguments[from] = number;
            each(method, arguments, from + 1);
        }
    }

    private static void byLot(Method method) throws IllegalAccessException {
        Random lot = new Random(method.getName().hashCode());
        Object[] arguments = new Object[method.getParameterCount()];
        for (int i = 0; i < 20000; i++) {
            draw(lot, arguments);
            call(method, arguments);
        }
    }

    private static void mixed(Method[] methods) throws IllegalAccessException {
        Random lot = new Random(41);
        for (int i = 0; i < 200000; i++) {
            Method method = methods[lot.nextInt(methods.length)];
            Object[] arguments = new Object[method.getParameterCount()];
            draw(lot, arguments);
            call(method, arguments);
        }
    }

    private static void draw(Random lot, Object[] arguments) {
        for (int i = 0; i < arguments.length; i++) {
            arguments[i] = NUMBERS[lot.nextInt(NUMBERS.length)];
        }
    }

    private static void call(Method method, Object[] arguments) throws IllegalAccessException {
        if (used >= CALLS) {
            object = made % 2 == 0 ? new WhiteSlope() : Twins.rich();
            made++;
            used = 0;
        }
        used++;
        try {
            method.invoke(object, arguments);
        } catch (InvocationTargetException e) {
            DUE.holds(method.getName() + Arrays.toString(arguments) + " threw " + e.getCause(), false);
        }
    }
}
