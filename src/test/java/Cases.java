import java.lang.reflect.InvocationTargetException;
import java.lang.reflect.Method;
import java.lang.reflect.Modifier;
import java.util.Arrays;
import java.util.Comparator;

/** Runs every case of a test, so that none that is written can be left out of main. */
final class Cases {
    private Cases() {
    }

    /** A case is a static method of the test without parameters and without an answer. */
    static void run(Class<?> test) throws ReflectiveOperationException {
        for (Method m : all(test)) {
            try {
                m.setAccessible(true);
                m.invoke(null);
            } catch (InvocationTargetException e) {
                throw new IllegalStateException(m.getName() + " threw", e.getCause());
            }
        }
    }

    static long beginningWith(Class<?> test, String start) {
        return Arrays.stream(all(test)).filter(m -> m.getName().startsWith(start)).count();
    }

    private static Method[] all(Class<?> test) {
        return Arrays.stream(test.getDeclaredMethods())
                .filter(m -> Modifier.isStatic(m.getModifiers()) && !m.isSynthetic() && m.getParameterCount() == 0
                        && m.getReturnType() == void.class)
                .sorted(Comparator.comparing(Method::getName))
                .toArray(Method[]::new);
    }
}
