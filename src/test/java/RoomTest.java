import java.lang.management.ManagementFactory;
import java.lang.reflect.Array;
import java.lang.reflect.Field;
import java.lang.reflect.Modifier;
import java.util.Collections;
import java.util.IdentityHashMap;
import java.util.Set;

/** All rows are made with the object and used again: no call makes anything that the room has to hold. */
public final class RoomTest {
    private static final int CALLS = 512;
    private static final int FAR = 536870912;
    private static final int DEGREE = 65536;
    private static final int MOST_PARTS = 3000;
    private static final long ROOM = 7300000;
    // No object of the machine is smaller, so a call that makes one shows in a run of 512.
    private static final long LEAST_OBJECT = 16;

    private static int wrong = 0;

    public static void main(String[] args) throws IllegalAccessException {
        for (int run = 0; run < 4; run++) {
            keepsItsRows(run);
        }
        for (int run = 0; run < 4; run++) {
            makesNothing(run);
        }
        System.out.println(wrong == 0 ? "no call makes a row" : wrong + " faults of the room");
        if (wrong != 0) {
            System.exit(1);
        }
    }

    private static void holds(String what, boolean does) {
        if (!does) {
            wrong++;
            System.out.println("not so: " + what);
        }
    }

    private static void keepsItsRows(int run) throws IllegalAccessException {
        CurvePaths x = new CurvePaths();
        Set<Object> before = held(x);
        holds("a new object is a small piece of the room: " + size(before), size(before) < ROOM / 100);
        for (int call = 0; call < CALLS; call++) {
            make(x, run, call);
            Set<Object> after = held(x);
            if (!after.equals(before)) {
                holds("run " + run + ", call " + call + " keeps the rows of the constructor", false);
                return;
            }
        }
        holds("arcs fill the path: " + x.parts(), run != 1 || x.parts() > MOST_PARTS - 43);
    }

    private static void makesNothing(int run) {
        if (!(ManagementFactory.getThreadMXBean() instanceof com.sun.management.ThreadMXBean counter)
                || !counter.isThreadAllocatedMemorySupported()) {
            System.out.println("this machine does not count what a thread makes");
            return;
        }
        CurvePaths x = new CurvePaths();
        long thread = Thread.currentThread().getId();
        counter.getThreadAllocatedBytes(thread);
        long before = counter.getThreadAllocatedBytes(thread);
        for (int call = 0; call < CALLS; call++) {
            make(x, run, call);
        }
        long made = counter.getThreadAllocatedBytes(thread) - before;
        holds("run " + run + " makes nothing, but made " + made + " bytes", made < CALLS * LEAST_OBJECT);
    }

    private static int make(CurvePaths x, int run, int call) {
        switch (run) {
            case 0:
                return bentCurvesFlattened(x, call);
            case 1:
                return arcsUntilFull(x, call);
            case 2:
                return linesAndClosings(x, call);
            default:
                return everyCall(x, call);
        }
    }

    /** Three curves that ten halvings do not flatten fill nearly all parts. */
    private static int bentCurvesFlattened(CurvePaths x, int call) {
        switch (call % 6) {
            case 0:
                return x.move(0, 0);
            case 4:
                return x.flatten(1);
            case 5:
                return x.clear();
            default:
                return x.curve(FAR, 0, -FAR, FAR, 0, 0);
        }
    }

    private static int arcsUntilFull(CurvePaths x, int call) {
        if (call == 0) {
            return x.axes(DEGREE, 0, 0, DEGREE) ? 1 : 0;
        }
        return x.arc(0, 0, DEGREE, 3601 * DEGREE, call % 2);
    }

    private static int linesAndClosings(CurvePaths x, int call) {
        if (call == 0) {
            return x.move(1, 2);
        }
        return call % 3 == 0 ? x.close() : x.line(call, -call);
    }

    private static int everyCall(CurvePaths x, int call) {
        switch (call % 16) {
            case 0: return x.move(call, call);
            case 1: return x.line(call, -call);
            case 2: return x.curve(1, 2, call, 4, 5, call);
            case 3: return x.close();
            case 4: return x.axes(call, 5, 6, call) ? 1 : 0;
            case 5: return x.arc(3, 4, call * DEGREE, -call * DEGREE, call / 16 % 2);
            case 6: return x.shift(call, -call);
            case 7: return x.reverse();
            case 8: return x.flatten(1 + call);
            case 9: return x.parts();
            case 10: return x.kind(call / 2);
            case 11: return x.place(call / 2, call % 6);
            case 12: return x.point(call % 2);
            case 13: return x.isPoint() ? 1 : 0;
            case 14: return x.bound(call / 16 % 4);
            default: return call % 64 == 63 ? x.clear() : x.flatten(0);
        }
    }

    /** The object, all of its own objects and all of its rows. */
    private static Set<Object> held(CurvePaths x) throws IllegalAccessException {
        Set<Object> found = Collections.newSetFromMap(new IdentityHashMap<>());
        collect(x, found);
        return found;
    }

    private static void collect(Object one, Set<Object> found) throws IllegalAccessException {
        if (one == null || !found.add(one) || one.getClass().isArray()) {
            return;
        }
        for (Field f : one.getClass().getDeclaredFields()) {
            if (!Modifier.isStatic(f.getModifiers()) && !f.getType().isPrimitive()) {
                f.setAccessible(true);
                collect(f.get(one), found);
            }
        }
    }

    private static long size(Set<Object> held) {
        long fieldsAndElements = 0;
        for (Object one : held) {
            fieldsAndElements += one.getClass().isArray() ? Array.getLength(one)
                    : one.getClass().getDeclaredFields().length;
        }
        return fieldsAndElements;
    }
}
