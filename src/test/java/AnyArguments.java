import java.lang.reflect.InvocationTargetException;
import java.lang.reflect.Method;
import java.lang.reflect.Modifier;
import java.util.Arrays;
import java.util.Comparator;
import java.util.List;

/**
 * Every method with every mixture of numbers at and beyond the limits of the document, on objects in many states: a call
 * answers or throws one of the exceptions of its throws clause, never a class below them, which the machine throws.
 */
public final class AnyArguments {
    private static final int[] FEW = {0, 1, 7, 8, -1, 48, Integer.MIN_VALUE, Integer.MAX_VALUE};
    private static final int[] MANY = {0, 1, 2, 3, 4, 5, 6, 7, 8, 9, 15, 16, 17, 31, 32, 33, 47, 48, 49, 63, 64, 65, 255,
        256, 379, 380, 381, 399, 400, 401, 511, 512, 1 << 29, 1 << 30, Integer.MAX_VALUE - 1, Integer.MAX_VALUE, -1, -2,
        -7, -8, -9, -32, -48, -64, -400, Integer.MIN_VALUE, Integer.MIN_VALUE + 1};

    private static int calls;
    private static int wrong;

    public static void main(String[] args) throws IllegalAccessException {
        Method[] methods = CheckpointSwap.class.getDeclaredMethods();
        Arrays.sort(methods, Comparator.comparing(Method::getName));
        for (Refusal.Scene scene : Scenes.ALL) {
            for (Method method : methods) {
                if (Modifier.isPublic(method.getModifiers())) {
                    callAll(scene.make(), method);
                }
            }
        }
        System.out.println(calls + " calls with any arguments, " + wrong + " wrong");
        if (wrong != 0) {
            System.exit(1);
        }
    }

    /** A mixture is the digits of a number whose base is how many arguments there are to choose from. */
    private static void callAll(CheckpointSwap x, Method method) throws IllegalAccessException {
        int count = method.getParameterCount();
        int[] choice = count > 2 ? FEW : MANY;
        int mixtures = count > 3 ? 1000 : (int) Math.pow(choice.length, count);
        for (int mixture = 0; mixture < mixtures; mixture++) {
            Object[] arguments = new Object[count];
            int rest = mixture;
            for (int k = 0; k < count; k++) {
                arguments[k] = choice[rest % choice.length];
                rest /= choice.length;
            }
            call(x, method, arguments);
        }
    }

    private static void call(CheckpointSwap x, Method method, Object[] arguments) throws IllegalAccessException {
        List<Class<?>> declared = List.of(method.getExceptionTypes());
        calls++;
        try {
            method.invoke(x, arguments);
        } catch (InvocationTargetException e) {
            Throwable thrown = e.getCause();
            if (!declared.contains(thrown.getClass())) {
                wrong++;
                System.out.println(method.getName() + Arrays.toString(arguments) + " threw " + thrown);
            }
        }
    }
}
