/** Promise 6: axes. */
public final class Promise06AxesTest {
    private static final int FAR = Tried.FAR;

    public static void main(String[] args) {
        Checking.runAll(Promise06AxesTest.class, "promise6");
    }

    /** The four numbers, seen by the points at 0 and 90 degrees around (0, 0). */
    private static void dueAxes(Tried t, int p, int q, int r, int s) {
        t.clear();
        t.due(t.arc(0, 0, 0, 0, 0), 1);
        t.dueParts(Tried.part(0, p, q));
        t.clear();
        t.due(t.arc(0, 0, 90 * Tried.DEGREE, 90 * Tried.DEGREE, 0), 1);
        t.dueParts(Tried.part(0, r, s));
    }

    private static boolean axesWith(Tried t, int which, int v) {
        int[] d = {1, 2, 3, 4};
        d[which] = v;
        return t.axes(d[0], d[1], d[2], d[3]);
    }

    static void promise6_theAxesAreTaken() {
        Tried t = new Tried();
        t.due(t.axes(11, -12, 13, -14), true);
        dueAxes(t, 11, -12, 13, -14);
        t.due(t.axes(0, 0, 0, 0), true);
        dueAxes(t, 0, 0, 0, 0);
    }

    static void promise6_theFarthestAreTaken() {
        Tried t = new Tried();
        t.due(t.axes(FAR, -FAR, -FAR, FAR), true);
        dueAxes(t, FAR, -FAR, -FAR, FAR);
        t.due(t.axes(-FAR, FAR, FAR, -FAR), true);
        dueAxes(t, -FAR, FAR, FAR, -FAR);
    }

    static void promise6_oneTooLargeIsFalseAndChangesNothing() {
        Tried t = new Tried();
        t.axes(21, 22, 23, 24);
        for (int which = 0; which < 4; which++) {
            t.due(axesWith(t, which, FAR + 1), false);
            t.due(axesWith(t, which, Tried.HIGHEST), false);
            dueAxes(t, 21, 22, 23, 24);
        }
    }

    static void promise6_oneTooSmallIsFalseAndChangesNothing() {
        Tried t = new Tried();
        t.axes(21, 22, 23, 24);
        for (int which = 0; which < 4; which++) {
            t.due(axesWith(t, which, -FAR - 1), false);
            t.due(axesWith(t, which, Tried.LOWEST), false);
            dueAxes(t, 21, 22, 23, 24);
        }
    }

    static void promise6_falseAtFirstLeavesThemZero() {
        Tried t = new Tried();
        t.due(t.axes(1, 2, 3, FAR + 1), false);
        dueAxes(t, 0, 0, 0, 0);
    }

    static void promise6_thePathIsLeftAlone() {
        Tried t = new Tried();
        t.move(1, 2);
        t.curve(3, 4, 5, 6, 7, 8);
        String before = t.state();
        t.due(t.axes(9, 9, 9, 9), true);
        t.due(t.axes(9, 9, 9, FAR + 1), false);
        Checking.due("the path", t.state(), before);
    }

    static void promise6_arcsLaidBeforeStayWhereTheyAre() {
        Tried t = Tried.round();
        t.arc(10, 20, 0, 90 * Tried.DEGREE, 0);
        t.axes(1, 1, 1, 1);
        t.dueParts(Tried.part(0, 65546, 20), Tried.part(2, 10, 65556, 65546, 36215, 36205, 65556));
    }

    static void promise6_noOtherCallChangesThem() {
        Tried t = new Tried();
        t.axes(31, 32, 33, 34);
        t.move(1, 2);
        t.line(3, 4);
        t.shift(100, 100);
        t.reverse();
        t.flatten(1);
        t.arc(FAR, FAR, 0, 0, 0);
        dueAxes(t, 31, 32, 33, 34);
    }
}
