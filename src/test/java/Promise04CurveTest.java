/** Promise 4: curve. */
public final class Promise04CurveTest {
    private static final int FAR = Tried.FAR;

    public static void main(String[] args) {
        Checking.runAll(Promise04CurveTest.class, "promise4");
    }

    private static Tried begun() {
        Tried t = new Tried();
        t.due(t.move(1, 2), 1);
        return t;
    }

    /** All six places 0, but for one. */
    private static int curveWith(Tried t, int which, int v) {
        int[] p = new int[6];
        p[which] = v;
        return t.curve(p[0], p[1], p[2], p[3], p[4], p[5]);
    }

    static void promise4_aCurveByTwoControlPointsToAPoint() {
        Tried t = begun();
        t.due(t.curve(3, 4, 5, 6, 7, 8), 2);
        t.due(t.curve(9, 10, 11, 12, 13, 14), 3);
        t.dueParts(Tried.part(0, 1, 2), Tried.part(2, 7, 8, 3, 4, 5, 6), Tried.part(2, 13, 14, 9, 10, 11, 12));
        t.duePoint(13, 14);
    }

    static void promise4_noWithoutAPath() {
        Tried t = new Tried();
        t.refused(Tried.NO, () -> t.curve(1, 2, 3, 4, 5, 6));
        t.dueNoPath();
    }

    static void promise4_noWhenThePathIsGone() {
        Tried t = begun();
        t.clear();
        t.refused(Tried.NO, () -> t.curve(1, 2, 3, 4, 5, 6));
    }

    static void promise4_noBeforeRange() {
        Tried t = new Tried();
        for (int which = 0; which < 6; which++) {
            int at = which;
            t.refused(Tried.NO, () -> curveWith(t, at, FAR + 1));
        }
    }

    static void promise4_theFarthestPlacesAreTaken() {
        Tried t = begun();
        t.due(t.curve(FAR, -FAR, -FAR, FAR, FAR, FAR), 2);
        t.due(t.curve(-FAR, FAR, FAR, -FAR, -FAR, -FAR), 3);
        t.dueParts(Tried.part(0, 1, 2), Tried.part(2, FAR, FAR, FAR, -FAR, -FAR, FAR),
                Tried.part(2, -FAR, -FAR, -FAR, FAR, FAR, -FAR));
    }

    static void promise4_anyPlaceTooLargeIsRange() {
        Tried t = begun();
        for (int which = 0; which < 6; which++) {
            int at = which;
            t.refused(Tried.RANGE, () -> curveWith(t, at, FAR + 1));
            t.due(curveWith(t, at, Tried.HIGHEST), Tried.RANGE);
        }
    }

    static void promise4_anyPlaceTooSmallIsRange() {
        Tried t = begun();
        for (int which = 0; which < 6; which++) {
            int at = which;
            t.refused(Tried.RANGE, () -> curveWith(t, at, -FAR - 1));
            t.due(curveWith(t, at, Tried.LOWEST), Tried.RANGE);
        }
    }

    static void promise4_rangeBehindClosingBeginsNothing() {
        Tried t = begun();
        t.close();
        t.refused(Tried.RANGE, () -> t.curve(0, 0, 0, FAR + 1, 0, 0));
        t.due(t.close(), 2);
    }

    static void promise4_behindClosingANewSubpathBeginsAtThePoint() {
        Tried t = begun();
        t.line(3, 4);
        t.close();
        t.due(t.curve(5, 6, 7, 8, 9, 10), 5);
        t.dueParts(Tried.part(0, 1, 2), Tried.part(1, 3, 4), Tried.part(3, 1, 2),
                Tried.part(0, 1, 2), Tried.part(2, 9, 10, 5, 6, 7, 8));
    }

    static void promise4_theLastPartThatThereIsRoomFor() {
        Tried t = Tried.filled(2999);
        t.due(t.curve(1, 2, 3, 4, 5, 6), 3000);
        t.duePart(2999, 2, 5, 6, 1, 2, 3, 4);
    }

    static void promise4_fullAtThreeThousandParts() {
        Tried t = Tried.filled(3000);
        t.refused(Tried.FULL, () -> t.curve(1, 2, 3, 4, 5, 6));
    }

    static void promise4_behindClosingThereMustBeRoomForTwo() {
        Tried t = Tried.filledAndClosed(2998);
        t.due(t.curve(1, 2, 3, 4, 5, 6), 3000);
        t.duePart(2998, 0, 0, 0);
        t.duePart(2999, 2, 5, 6, 1, 2, 3, 4);
    }

    static void promise4_behindClosingRoomForOneIsFull() {
        Tried t = Tried.filledAndClosed(2999);
        t.refused(Tried.FULL, () -> t.curve(1, 2, 3, 4, 5, 6));
    }

    static void promise4_rangeBeforeFull() {
        Tried t = Tried.filled(3000);
        t.refused(Tried.RANGE, () -> t.curve(FAR + 1, 0, 0, 0, 0, 0));
        t.refused(Tried.RANGE, () -> t.curve(0, 0, 0, 0, 0, -FAR - 1));
    }

    static void promise4_asManyCurvesAsAnObjectCanTakeKeepTheirPlaces() {
        Tried t = begun();
        for (int n = 1; n <= 480; n++) {
            t.due(t.curve(n, 1000 + n, 2000 + n, 3000 + n, 4000 + n, 5000 + n), n + 1);
        }
        t.duePart(1, 2, 4001, 5001, 1, 1001, 2001, 3001);
        t.duePart(480, 2, 4480, 5480, 480, 1480, 2480, 3480);
    }
}
