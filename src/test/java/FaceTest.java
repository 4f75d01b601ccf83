import java.lang.reflect.Constructor;
import java.lang.reflect.Field;
import java.lang.reflect.Method;
import java.lang.reflect.Modifier;
import java.util.Set;
import java.util.TreeSet;

/** The class has the document's face, and nothing beside it can be seen from outside. */
public final class FaceTest {
    private static final String[] METHODS = {
        "int move(int,int)", "int line(int,int)", "int curve(int,int,int,int,int,int)", "int close()",
        "boolean axes(int,int,int,int)", "int arc(int,int,int,int,int)", "int shift(int,int)", "int reverse()",
        "int flatten(int)", "int clear()", "int parts()", "int kind(int)", "int place(int,int)",
        "int point(int)", "boolean isPoint()", "int bound(int)"
    };
    private static final String[] CONSTANTS = {"BAD", "NO", "FULL", "RANGE"};

    private static int wrong = 0;

    public static void main(String[] args) throws IllegalAccessException {
        holds("public and final", Modifier.isPublic(CurvePaths.class.getModifiers())
                && Modifier.isFinal(CurvePaths.class.getModifiers()));
        methods();
        constants();
        constructors();
        for (Class<?> inside : CurvePaths.class.getDeclaredClasses()) {
            holds("static: " + inside, Modifier.isStatic(inside.getModifiers())
                    && !Modifier.isPublic(inside.getModifiers()) && !Modifier.isProtected(inside.getModifiers()));
        }
        System.out.println(wrong == 0 ? "the face is the document's" : wrong + " faults of the face");
        if (wrong != 0) {
            System.exit(1);
        }
    }

    private static void holds(String what, boolean does) {
        if (!does) {
            wrong++;
            System.out.println("not so: " + what);
        }
    }

    private static void methods() {
        Set<String> seen = new TreeSet<>();
        Set<String> names = new TreeSet<>();
        for (Method m : CurvePaths.class.getDeclaredMethods()) {
            if (!Modifier.isPrivate(m.getModifiers())) {
                seen.add(signature(m));
                names.add(m.getName());
            }
        }
        holds("the methods are " + seen, seen.equals(new TreeSet<>(Set.of(METHODS))));
        for (Method m : CurvePaths.class.getDeclaredMethods()) {
            holds("a name of its own: " + m, !Modifier.isPrivate(m.getModifiers()) || !names.contains(m.getName()));
        }
    }

    private static String signature(Method m) {
        StringBuilder text = new StringBuilder(m.getReturnType() + " " + m.getName() + "(");
        for (Class<?> type : m.getParameterTypes()) {
            text.append(text.charAt(text.length() - 1) == '(' ? "" : ",").append(type);
        }
        return text.append(")").toString();
    }

    private static void constants() throws IllegalAccessException {
        for (Field f : CurvePaths.class.getDeclaredFields()) {
            if (Modifier.isPrivate(f.getModifiers())) {
                continue;
            }
            int at = java.util.Arrays.asList(CONSTANTS).indexOf(f.getName());
            holds("a constant of the document: " + f, at >= 0 && f.getType() == int.class
                    && Modifier.isPublic(f.getModifiers()) && Modifier.isStatic(f.getModifiers())
                    && Modifier.isFinal(f.getModifiers()) && f.getInt(null) == -1 - at);
        }
        holds("BAD", CurvePaths.BAD == -1);
        holds("NO", CurvePaths.NO == -2);
        holds("FULL", CurvePaths.FULL == -3);
        holds("RANGE", CurvePaths.RANGE == -4);
    }

    private static void constructors() {
        Constructor<?>[] all = CurvePaths.class.getDeclaredConstructors();
        holds("one public constructor without parameters",
                all.length == 1 && Modifier.isPublic(all[0].getModifiers()) && all[0].getParameterCount() == 0);
    }
}
