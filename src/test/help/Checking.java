import java.lang.reflect.InvocationTargetException;
import java.lang.reflect.Method;
import java.lang.reflect.Modifier;
import java.util.Arrays;
import java.util.Comparator;

/** Runs the tests of one class and tells by name which of them does not hold. */
final class Checking {
    private static final int MOST_TOLD = 20;

    private static String test = "";
    private static int looks;
    private static int wrong;

    private Checking() {
    }

    /** Each static method of the class that is not private and takes nothing is a test; its name says what holds. */
    static void runAll(Class<?> tests, String promise) {
        Method[] methods = tests.getDeclaredMethods();
        Arrays.sort(methods, Comparator.comparing(Method::getName));
        int count = 0;
        for (Method method : methods) {
            if (isTest(method)) {
                count++;
                run(method, promise);
            }
        }
        if (count == 0) {
            tell("the class has no test");
        }
        System.out.println(count + " tests of " + promise + ", wrong: " + wrong);
        if (wrong != 0) {
            System.exit(1);
        }
    }

    private static boolean isTest(Method method) {
        int modifiers = method.getModifiers();
        return Modifier.isStatic(modifiers) && !Modifier.isPrivate(modifiers) && method.getParameterCount() == 0;
    }

    private static void run(Method method, String promise) {
        test = method.getName();
        looks = 0;
        try {
            method.invoke(null);
        } catch (InvocationTargetException thrown) {
            tell("threw " + thrown.getCause());
        } catch (IllegalAccessException hidden) {
            tell("cannot be called");
        }
        if (looks == 0) {
            tell("looks at nothing");
        }
        if (!test.startsWith(promise + "_")) {
            tell("is not named after " + promise);
        }
    }

    static void due(String call, Object got, Object want) {
        looks++;
        if (!got.equals(want)) {
            tell(call + " answered " + got + ", due is " + want);
        }
    }

    static void tell(String what) {
        wrong++;
        if (wrong <= MOST_TOLD) {
            System.out.println(test + ": " + what);
        }
    }
}
