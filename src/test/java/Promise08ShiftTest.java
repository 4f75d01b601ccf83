/** Promise 8: shift. */
public final class Promise08ShiftTest {
    private static final int FAR = Tried.FAR;

    public static void main(String[] args) {
        Checking.runAll(Promise08ShiftTest.class, "promise8");
    }

    private static Tried allKinds() {
        Tried t = new Tried();
        t.move(1, 2);
        t.curve(3, 4, 5, 6, 7, 8);
        t.close();
        t.line(9, 10);
        return t;
    }

    /** A curve whose one place of eight, beginning with those of its beginning, is v; the others are 0. */
    private static Tried curveWith(int which, int v) {
        int[] p = new int[8];
        p[which] = v;
        Tried t = new Tried();
        t.move(p[0], p[1]);
        t.due(t.curve(p[2], p[3], p[4], p[5], p[6], p[7]), 2);
        return t;
    }

    private static int shiftAlong(Tried t, int axis, int d) {
        return axis == 0 ? t.shift(d, 0) : t.shift(0, d);
    }

    static void promise8_allPointsAreMoved() {
        Tried t = allKinds();
        t.due(t.shift(100, -1000), 5);
        t.dueParts(Tried.part(0, 101, -998), Tried.part(2, 107, -992, 103, -996, 105, -994),
                Tried.part(3, 101, -998), Tried.part(0, 101, -998), Tried.part(1, 109, -990));
        t.duePoint(109, -990);
        t.dueBounds(101, -998, 109, -990);
    }

    static void promise8_thePointBehindClosingIsMovedToo() {
        Tried t = new Tried();
        t.move(1, 2);
        t.line(3, 4);
        t.close();
        t.due(t.shift(10, 20), 3);
        t.duePoint(11, 22);
        t.due(t.line(5, 6), 5);
        t.duePart(3, 0, 11, 22);
    }

    static void promise8_noDistanceMovesNothing() {
        Tried t = allKinds();
        String before = t.state();
        t.due(t.shift(0, 0), 5);
        Checking.due("the path", t.state(), before);
    }

    static void promise8_noPathIsMovedByAnyDistance() {
        Tried t = new Tried();
        t.due(t.shift(1, 1), 0);
        t.due(t.shift(Tried.HIGHEST, Tried.LOWEST), 0);
        t.due(t.shift(Tried.LOWEST, Tried.HIGHEST), 0);
        t.dueNoPath();
    }

    static void promise8_upToTheFarthestPlaceItIsNotTooLarge() {
        for (int which = 0; which < 8; which++) {
            Tried t = curveWith(which, 5);
            t.due(shiftAlong(t, which % 2, FAR - 5), 2);
            t.due(t.bound(2 + which % 2), FAR);
        }
    }

    static void promise8_anyPlaceTooLargeIsRangeAndNothingIsMoved() {
        for (int which = 0; which < 8; which++) {
            Tried t = curveWith(which, 5);
            int axis = which % 2;
            t.refused(Tried.RANGE, () -> shiftAlong(t, axis, FAR - 4));
        }
    }

    static void promise8_downToTheFarthestPlaceItIsNotTooSmall() {
        for (int which = 0; which < 8; which++) {
            Tried t = curveWith(which, -5);
            t.due(shiftAlong(t, which % 2, 5 - FAR), 2);
            t.due(t.bound(which % 2), -FAR);
        }
    }

    static void promise8_anyPlaceTooSmallIsRangeAndNothingIsMoved() {
        for (int which = 0; which < 8; which++) {
            Tried t = curveWith(which, -5);
            int axis = which % 2;
            t.refused(Tried.RANGE, () -> shiftAlong(t, axis, 4 - FAR));
        }
    }

    static void promise8_oneAxisTooFarMovesTheOtherOneNeither() {
        Tried t = allKinds();
        t.refused(Tried.RANGE, () -> t.shift(1, FAR));
        t.refused(Tried.RANGE, () -> t.shift(-FAR - 2, 1));
    }

    static void promise8_onlyOneOfManySubpathsTooFarMovesNone() {
        Tried t = new Tried();
        t.move(FAR, 0);
        t.line(0, 0);
        t.move(1, 1);
        t.line(2, 2);
        t.refused(Tried.RANGE, () -> t.shift(1, 0));
        t.due(t.shift(-1, 0), 4);
    }

    static void promise8_acrossTheWholePlane() {
        Tried t = new Tried();
        t.move(FAR, -FAR);
        t.due(t.shift(-2 * FAR, 2 * FAR), 1);
        t.duePoint(-FAR, FAR);
        t.refused(Tried.RANGE, () -> t.shift(2 * FAR + 1, 0));
        t.refused(Tried.RANGE, () -> t.shift(0, -2 * FAR - 1));
    }

    static void promise8_noSumWrapsAround() {
        int[] places = {FAR, -FAR, 0, 1, -1};
        for (int v : places) {
            Tried t = new Tried();
            t.move(v, v);
            t.refused(Tried.RANGE, () -> t.shift(Tried.HIGHEST, 0));
            t.refused(Tried.RANGE, () -> t.shift(0, Tried.HIGHEST));
            t.refused(Tried.RANGE, () -> t.shift(Tried.LOWEST, 0));
            t.refused(Tried.RANGE, () -> t.shift(0, Tried.LOWEST));
        }
    }

    static void promise8_aReplacedBeginningDoesNotCount() {
        Tried t = new Tried();
        t.move(FAR, FAR);
        t.move(0, 0);
        t.due(t.shift(FAR, FAR), 1);
        t.duePoint(FAR, FAR);
    }

    static void promise8_controlPointsThatFlatteningTookDoNotCount() {
        Tried t = new Tried();
        t.move(0, 0);
        t.curve(1, 0, 1, 0, 0, 0);
        t.flatten(6553600);
        t.due(t.shift(FAR, 0), 2);
        t.dueParts(Tried.part(0, FAR, 0), Tried.part(1, FAR, 0));
    }

    static void promise8_aFullPathIsMoved() {
        Tried t = Tried.filled(3000);
        t.due(t.shift(7, -8), 3000);
        t.duePart(0, 0, 7, -8);
        t.duePart(2999, 1, 18, 4);
    }
}
