/** Promise 10 and "FLATTENING" of the terms. */
public final class Promise10FlattenTest {
    private static final int FAR = Tried.FAR;
    private static final int WIDEST = 6553600;

    public static void main(String[] args) {
        Checking.runAll(Promise10FlattenTest.class, "promise10");
    }

    /** One curve along x (axis 0) or y (1) with these four places; the other ones are 0. */
    private static Tried along(int axis, int a, int b, int c, int d) {
        Tried t = new Tried();
        if (axis == 0) {
            t.move(a, 0);
            t.due(t.curve(b, 0, c, 0, d, 0), 2);
        } else {
            t.move(0, a);
            t.due(t.curve(0, b, 0, c, 0, d), 2);
        }
        return t;
    }

    /** A curve from THE POINT that becomes 1024 lines by a bound of 1. */
    private static int steepCurve(Tried t) {
        return t.curve(FAR, FAR, -FAR, -FAR, 0, 0);
    }

    /** The curve is flat by the bound, and by one less it is not. */
    private static void dueFlatFrom(int bound, int[] places) {
        for (int axis = 0; axis < 2; axis++) {
            Tried flat = along(axis, places[0], places[1], places[2], places[3]);
            flat.due(flat.flatten(bound), 2);
            flat.due(flat.kind(1), 1);
            flat.due(flat.place(1, axis), places[3]);
            Tried bent = along(axis, places[0], places[1], places[2], places[3]);
            bent.due(bent.flatten(bound - 1) > 2, true);
        }
    }

    static void promise10_aBoundTooSmallIsBad() {
        Tried t = along(0, 0, 0, 2, 4);
        t.refused(Tried.BAD, () -> t.flatten(0));
        t.refused(Tried.BAD, () -> t.flatten(-1));
        t.refused(Tried.BAD, () -> t.flatten(Tried.LOWEST));
    }

    static void promise10_aBoundTooLargeIsBad() {
        Tried t = along(0, 0, 0, 2, 4);
        t.refused(Tried.BAD, () -> t.flatten(WIDEST + 1));
        t.refused(Tried.BAD, () -> t.flatten(Tried.HIGHEST));
    }

    static void promise10_aWrongBoundIsBadWithoutAPathToo() {
        Tried t = new Tried();
        t.refused(Tried.BAD, () -> t.flatten(0));
        t.refused(Tried.BAD, () -> t.flatten(WIDEST + 1));
        t.dueNoPath();
    }

    static void promise10_theLeastAndTheGreatestBoundAreTaken() {
        Tried t = along(0, 0, 1, 2, 3);
        t.due(t.flatten(1), 2);
        t.duePart(1, 1, 3, 0);
        Tried other = along(0, 0, 1, 2, 3);
        other.due(other.flatten(WIDEST), 2);
        other.duePart(1, 1, 3, 0);
    }

    static void promise10_noPathStaysNone() {
        Tried t = new Tried();
        t.due(t.flatten(1), 0);
        t.due(t.flatten(WIDEST), 0);
        t.dueNoPath();
    }

    static void promise10_withoutCurvesNothingIsChanged() {
        Tried t = new Tried();
        t.move(1, 2);
        t.line(3, 4);
        t.close();
        t.line(5, 6);
        t.move(7, 8);
        String before = t.state();
        t.due(t.flatten(1), 6);
        Checking.due("lines alone", t.state(), before);
    }

    static void promise10_flatUpToTwoThirdsOfTheBoundAtItsBeginning() {
        dueFlatFrom(3, new int[] {0, 0, 2, 4});
        dueFlatFrom(3, new int[] {0, 0, -2, -4});
        dueFlatFrom(WIDEST - 1, new int[] {0, 0, 4369066, 2 * 4369066});
        dueFlatFrom(WIDEST - 1, new int[] {0, 0, -4369066, -2 * 4369066});
    }

    static void promise10_flatUpToTwoThirdsOfTheBoundAtItsEnd() {
        dueFlatFrom(3, new int[] {0, 2, 4, 8});
        dueFlatFrom(3, new int[] {0, -2, -4, -8});
        dueFlatFrom(WIDEST - 1, new int[] {0, 4369066, 2 * 4369066, 4 * 4369066});
        dueFlatFrom(WIDEST - 1, new int[] {0, -4369066, -2 * 4369066, -4 * 4369066});
    }

    static void promise10_oneBeyondTheGreatestBoundIsNotFlat() {
        Tried flat = along(0, 0, 0, 4369066, 2 * 4369066);
        flat.due(flat.flatten(WIDEST), 2);
        Tried t = along(0, 0, 0, 4369067, 2 * 4369067);
        t.due(t.flatten(WIDEST), 3);
        t.dueParts(Tried.part(0, 0, 0), Tried.part(1, 2730666, 0), Tried.part(1, 8738134, 0));
        Tried back = along(1, 0, 4369067, 2 * 4369067, 4 * 4369067);
        back.due(back.flatten(WIDEST), 3);
        back.dueParts(Tried.part(0, 0, 0), Tried.part(1, 0, 7099733), Tried.part(1, 0, 17476268));
    }

    static void promise10_theWidestBendDoesNotWrapAround() {
        Tried t = along(0, FAR, -FAR, FAR, -FAR);
        t.due(t.flatten(WIDEST), 25);
        t.duePart(1, 1, 442368000, 0);
        t.duePart(24, 1, -FAR, 0);
        Tried other = along(1, -FAR, FAR, -FAR, FAR);
        other.due(other.flatten(WIDEST), 25);
        other.duePart(1, 1, 0, -442368000);
    }

    static void promise10_bothHalvesInTurn() {
        Tried t = new Tried();
        t.move(0, 1);
        t.curve(7, -9, -5, 11, 3, -3);
        t.due(t.flatten(12), 4);
        t.dueParts(Tried.part(0, 0, 1), Tried.part(1, 1, 0), Tried.part(1, -1, 1), Tried.part(1, 3, -3));
        t.clear();
        t.move(0, 1);
        t.curve(7, -9, -5, 11, 3, -3);
        t.due(t.flatten(4), 5);
        t.dueParts(Tried.part(0, 0, 1), Tried.part(1, 1, -3), Tried.part(1, 1, 0), Tried.part(1, -1, 1),
                Tried.part(1, 3, -3));
    }

    static void promise10_halvesAreRoundedDownBelowZeroToo() {
        Tried t = new Tried();
        t.move(-7, 5);
        t.curve(-2, -6, -9, -1, -4, -8);
        t.due(t.flatten(5), 4);
        t.dueParts(Tried.part(0, -7, 5), Tried.part(1, -7, -2), Tried.part(1, -7, -4), Tried.part(1, -4, -8));
    }

    static void promise10_aCurveThatWasHalvedTenTimesIsALine() {
        // One half is flat, the other one is the whole curve again.
        Tried t = along(0, 0, 0, 1, 2);
        t.due(t.flatten(1), 12);
        t.duePart(10, 1, 0, 0);
        t.duePart(11, 1, 2, 0);
        Tried other = along(1, 0, 0, -1, -2);
        other.due(other.flatten(1), 12);
        other.duePart(1, 1, 0, -2);
        other.duePart(11, 1, 0, -2);
    }

    static void promise10_tenHalvingsMakeAtMost1024Lines() {
        Tried t = new Tried();
        t.move(-FAR, FAR);
        t.curve(FAR, -FAR, -FAR, FAR, FAR, -FAR);
        t.due(t.flatten(1), 1025);
        t.duePart(1, 1, -533731324, 533731324);
        t.duePart(512, 1, 0, 0);
        t.duePart(1024, 1, FAR, -FAR);
    }

    static void promise10_aCurveWithoutExtentIsALineToo() {
        Tried t = new Tried();
        t.move(5, 6);
        t.curve(5, 6, 5, 6, 5, 6);
        t.due(t.flatten(1), 2);
        t.dueParts(Tried.part(0, 5, 6), Tried.part(1, 5, 6));
    }

    static void promise10_allSubpathsAndClosingsStay() {
        Tried t = new Tried();
        t.move(10, 10);
        t.line(20, 20);
        t.curve(20, 20, 20, 20, 20, 20);
        t.close();
        t.curve(11, 11, 12, 12, 13, 13);
        t.close();
        t.due(t.flatten(WIDEST), 7);
        t.dueParts(Tried.part(0, 10, 10), Tried.part(1, 20, 20), Tried.part(1, 20, 20), Tried.part(3, 10, 10),
                Tried.part(0, 10, 10), Tried.part(1, 13, 13), Tried.part(3, 10, 10));
        t.duePoint(10, 10);
    }

    static void promise10_theSubpathGoesOnBehindIt() {
        Tried t = along(0, 1, 2, 3, 4);
        t.flatten(1);
        t.due(t.line(9, 9), 3);
        t.due(t.close(), 4);
        t.duePart(3, 3, 1, 0);
        t.due(t.line(8, 8), 6);
        t.duePart(4, 0, 1, 0);
        t.due(t.reverse(), 6);
        t.duePart(0, 0, 9, 9);
        t.duePart(4, 0, 8, 8);
    }

    static void promise10_twiceIsAsOnce() {
        Tried t = along(0, 0, 7, -5, 3);
        t.due(t.flatten(4) > 2, true);
        String once = t.state();
        t.flatten(1);
        Checking.due("flattened twice", t.state(), once);
    }

    static void promise10_threeThousandLinesHaveRoom() {
        Tried t = Tried.filled(1976);
        t.flatten(1);
        t.due(steepCurve(t), 1977);
        t.due(t.flatten(1), 3000);
        t.duePart(2999, 1, 0, 0);
    }

    static void promise10_oneLineTooManyIsFull() {
        Tried t = Tried.filled(1977);
        t.flatten(1);
        t.due(steepCurve(t), 1978);
        t.refused(Tried.FULL, () -> t.flatten(1));
        t.duePart(1977, 2, 0, 0, FAR, FAR, -FAR, -FAR);
    }

    static void promise10_closingBehindTheLinesHasRoomOrIsFull() {
        Tried t = Tried.filled(1975);
        t.flatten(1);
        steepCurve(t);
        t.close();
        t.due(t.flatten(1), 3000);
        t.duePart(2999, 3, 0, 0);
        Tried other = Tried.filled(1976);
        other.flatten(1);
        steepCurve(other);
        other.close();
        other.refused(Tried.FULL, () -> other.flatten(1));
    }

    static void promise10_aLineBehindTheLinesIsFull() {
        Tried t = Tried.filled(1976);
        t.flatten(1);
        steepCurve(t);
        t.line(5, 6);
        t.refused(Tried.FULL, () -> t.flatten(1));
    }

    static void promise10_aBeginningBehindTheLinesIsFull() {
        Tried t = Tried.filled(1976);
        t.flatten(1);
        steepCurve(t);
        t.move(5, 6);
        t.refused(Tried.FULL, () -> t.flatten(1));
    }

    static void promise10_manyCurvesTooManyAreFullAndAllOfThemStay() {
        Tried t = new Tried();
        t.move(0, 0);
        steepCurve(t);
        steepCurve(t);
        steepCurve(t);
        t.refused(Tried.FULL, () -> t.flatten(1));
        t.due(t.flatten(WIDEST) > 4, true);
    }

    static void promise10_aFullPathOfFlatCurvesStaysFull() {
        Tried t = Tried.filled(3000);
        t.due(t.flatten(1), 3000);
        t.duePart(1, 1, 0, 0);
        t.duePart(2999, 1, 11, 12);
        t.refused(Tried.FULL, () -> t.line(1, 2));
    }

    static void promise10_badBeforeFull() {
        Tried t = Tried.filled(1977);
        t.flatten(1);
        steepCurve(t);
        t.due(t.flatten(1), Tried.FULL);
        t.refused(Tried.BAD, () -> t.flatten(0));
        t.refused(Tried.BAD, () -> t.flatten(WIDEST + 1));
    }
}
