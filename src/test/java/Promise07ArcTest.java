/** Promise 7: arc, its ways, angles and codes, and where it is laid. */
public final class Promise07ArcTest {
    private static final int FAR = Tried.FAR;
    private static final int DEGREE = Tried.DEGREE;
    private static final int[] FIRST = {2, 0, 65536, 65536, 36195, 36195, 65536};
    private static final int[] FIRST_BACK = {2, 65536, 0, 36195, 65536, 65536, 36195};

    public static void main(String[] args) {
        Checking.runAll(Promise07ArcTest.class, "promise7");
    }

    /** An arc around (0, 0) as the whole path. */
    private static Tried laid(int s, int e, int way) {
        Tried t = Tried.round();
        t.arc(0, 0, s, e, way);
        return t;
    }

    /** The arc is the first quarter, from 0 to 90 degrees. */
    private static void dueFirstQuarter(int s, int e) {
        laid(s, e, 0).dueParts(Tried.part(0, 65536, 0), FIRST);
    }

    /** The arc is the first quarter, from 90 degrees back to 0. */
    private static void dueFirstQuarterBack(int s, int e) {
        laid(s, e, 1).dueParts(Tried.part(0, 0, 65536), FIRST_BACK);
    }

    static void promise7_anotherWayIsBad() {
        Tried t = laid(0, 90 * DEGREE, 0);
        t.refused(Tried.BAD, () -> t.arc(0, 0, 0, 1, -1));
        t.refused(Tried.BAD, () -> t.arc(0, 0, 0, 1, 2));
        t.refused(Tried.BAD, () -> t.arc(0, 0, 0, 1, Tried.LOWEST));
        t.refused(Tried.BAD, () -> t.arc(0, 0, 0, 1, Tried.HIGHEST));
    }

    static void promise7_badLeavesNoPathEmpty() {
        Tried t = Tried.round();
        t.refused(Tried.BAD, () -> t.arc(0, 0, 0, 90 * DEGREE, 2));
        t.dueNoPath();
    }

    static void promise7_badBeforeRange() {
        Tried t = Tried.round();
        t.refused(Tried.BAD, () -> t.arc(FAR + 1, 0, 0, 0, 2));
        t.refused(Tried.BAD, () -> t.arc(FAR, 0, 0, 0, -1));
        t.refused(Tried.BAD, () -> t.arc(0, 0, Tried.LOWEST, Tried.HIGHEST, 2));
    }

    static void promise7_badBeforeFull() {
        Tried t = Tried.filled(3000);
        t.refused(Tried.BAD, () -> t.arc(0, 0, 0, 0, 2));
    }

    static void promise7_forwardFromOneAngleToAnother() {
        dueFirstQuarter(0, 90 * DEGREE);
    }

    static void promise7_forwardAWholeTurnIsAdded() {
        dueFirstQuarter(0, -270 * DEGREE);
        dueFirstQuarter(360 * DEGREE, 90 * DEGREE);
    }

    static void promise7_forwardManyTurnsAreAdded() {
        dueFirstQuarter(0, (90 - 3600) * DEGREE);
        dueFirstQuarter(0, (90 - 91 * 360) * DEGREE);
        dueFirstQuarter(90 * 360 * DEGREE, (90 - 90 * 360) * DEGREE);
    }

    static void promise7_forwardNothingIsTakenAway() {
        Tried t = laid(0, (90 + 720) * DEGREE, 0);
        t.due(t.parts(), 10);
        t.duePart(9, FIRST);
    }

    static void promise7_forwardAWholeTurnIsNotNothing() {
        Tried t = laid(0, 360 * DEGREE, 0);
        t.due(t.parts(), 5);
        t.duePoint(65536, 0);
    }

    static void promise7_forwardToTheSameAngleIsNoPart() {
        laid(90 * DEGREE, 90 * DEGREE, 0).dueParts(Tried.part(0, 0, 65536));
    }

    static void promise7_forwardToAWholeTurnBelowIsNoPart() {
        laid(90 * DEGREE, -270 * DEGREE, 0).dueParts(Tried.part(0, 0, 65536));
        laid(90 * DEGREE, (90 - 3600) * DEGREE, 0).dueParts(Tried.part(0, 0, 65536));
    }

    static void promise7_forwardToOneBelowIsNearlyAWholeTurn() {
        Tried t = laid(0, -1, 0);
        t.due(t.parts(), 5);
        t.duePart(1, FIRST);
        t.duePoint(65536, 0);
    }

    static void promise7_forwardFromTheGreatestIntToTheLeast() {
        Tried t = laid(Tried.HIGHEST, Tried.LOWEST, 0);
        t.dueParts(Tried.part(0, 64856, 9473), Tried.part(2, 0, 65536, 60266, 41179, 32978, 65536),
                Tried.part(2, -65536, 0, -36195, 65536, -65536, 36195),
                Tried.part(2, 0, -65536, -65536, -36195, -36195, -65536),
                Tried.part(2, 64856, -9473, 32978, -65536, 60266, -41179));
    }

    static void promise7_backFromOneAngleToAnother() {
        dueFirstQuarterBack(90 * DEGREE, 0);
    }

    static void promise7_backAWholeTurnIsTakenAway() {
        dueFirstQuarterBack(90 * DEGREE, 360 * DEGREE);
        dueFirstQuarterBack(-270 * DEGREE, 0);
    }

    static void promise7_backManyTurnsAreTakenAway() {
        dueFirstQuarterBack(90 * DEGREE, 7200 * DEGREE);
        dueFirstQuarterBack(90 * DEGREE, 91 * 360 * DEGREE);
        dueFirstQuarterBack((90 - 90 * 360) * DEGREE, 90 * 360 * DEGREE);
    }

    static void promise7_backNothingIsAdded() {
        Tried t = laid(90 * DEGREE, -720 * DEGREE, 1);
        t.due(t.parts(), 10);
        t.duePart(9, FIRST_BACK);
    }

    static void promise7_backAWholeTurnIsNotNothing() {
        Tried t = laid(0, -360 * DEGREE, 1);
        t.due(t.parts(), 5);
        t.duePart(4, FIRST_BACK);
    }

    static void promise7_backToTheSameAngleIsNoPart() {
        laid(90 * DEGREE, 90 * DEGREE, 1).dueParts(Tried.part(0, 0, 65536));
    }

    static void promise7_backToAWholeTurnAboveIsNoPart() {
        laid(0, 360 * DEGREE, 1).dueParts(Tried.part(0, 65536, 0));
        laid(0, 3600 * DEGREE, 1).dueParts(Tried.part(0, 65536, 0));
    }

    static void promise7_backToOneAboveIsNearlyAWholeTurn() {
        Tried t = laid(0, 1, 1);
        t.due(t.parts(), 5);
        t.duePart(1, 2, 0, -65536, 65536, -36195, 36195, -65536);
        t.duePart(4, FIRST_BACK);
    }

    static void promise7_backFromTheLeastIntToTheGreatest() {
        Tried t = laid(Tried.LOWEST, Tried.HIGHEST, 1);
        t.dueParts(Tried.part(0, 64856, -9473), Tried.part(2, 0, -65536, 60266, -41179, 32978, -65536),
                Tried.part(2, -65536, 0, -36195, -65536, -65536, -36195),
                Tried.part(2, 0, 65536, -65536, 36195, -36195, 65536),
                Tried.part(2, 64856, 9473, 32978, 65536, 60266, 41179));
    }

    static void promise7_3600DegreesAreNotTooMany() {
        Tried t = Tried.round();
        t.due(t.arc(0, 0, 0, 3600 * DEGREE, 0), 41);
        t.due(t.arc(0, 0, 100, 100 - 3600 * DEGREE, 1), 83);
        t.due(t.arc(0, 0, 100, 100 + 3600 * DEGREE, 0), 125);
        t.due(t.arc(0, 0, Tried.HIGHEST, Tried.HIGHEST - 3600 * DEGREE, 1), 167);
        t.due(t.arc(0, 0, Tried.LOWEST, Tried.LOWEST + 3600 * DEGREE, 0), 209);
    }

    static void promise7_moreThan3600DegreesForwardAreRange() {
        Tried t = laid(0, 0, 0);
        t.refused(Tried.RANGE, () -> t.arc(0, 0, 0, 3600 * DEGREE + 1, 0));
        t.refused(Tried.RANGE, () -> t.arc(0, 0, -100, 3600 * DEGREE - 99, 0));
        t.refused(Tried.RANGE, () -> t.arc(0, 0, Tried.LOWEST, Tried.HIGHEST, 0));
    }

    static void promise7_moreThan3600DegreesBackAreRange() {
        Tried t = laid(0, 0, 0);
        t.refused(Tried.RANGE, () -> t.arc(0, 0, 0, -3600 * DEGREE - 1, 1));
        t.refused(Tried.RANGE, () -> t.arc(0, 0, 100, 99 - 3600 * DEGREE, 1));
        t.refused(Tried.RANGE, () -> t.arc(0, 0, Tried.HIGHEST, Tried.LOWEST, 1));
    }

    static void promise7_moreThan3600DegreesAreCountedAfterTheTurns() {
        Tried t = Tried.round();
        t.due(t.arc(0, 0, 0, -7200 * DEGREE, 0), 1);
        t.due(t.arc(0, 0, 0, 7200 * DEGREE, 1), 2);
    }

    static void promise7_aMiddleBeyondIsRangeThoughItsPointsAreNot() {
        Tried t = laid(0, 0, 0);
        t.refused(Tried.RANGE, () -> t.arc(FAR + 1, 0, 180 * DEGREE, 180 * DEGREE, 0));
        t.refused(Tried.RANGE, () -> t.arc(0, FAR + 1, 270 * DEGREE, 270 * DEGREE, 1));
        t.refused(Tried.RANGE, () -> t.arc(-FAR - 1, 0, 0, 0, 0));
        t.refused(Tried.RANGE, () -> t.arc(0, -FAR - 1, 90 * DEGREE, 90 * DEGREE, 1));
    }

    static void promise7_aMiddleAtTheEndsOfIntIsRange() {
        Tried t = new Tried();
        t.refused(Tried.RANGE, () -> t.arc(Tried.HIGHEST, 0, 0, 0, 0));
        t.refused(Tried.RANGE, () -> t.arc(0, Tried.LOWEST, 0, 0, 1));
        t.dueNoPath();
    }

    static void promise7_theFarthestMiddleIsTaken() {
        Tried t = new Tried();
        t.due(t.arc(FAR, -FAR, 0, 90 * DEGREE, 0), 2);
        t.due(t.arc(-FAR, FAR, 0, 0, 1), 3);
        t.dueParts(Tried.part(0, FAR, -FAR), Tried.part(2, FAR, -FAR, FAR, -FAR, FAR, -FAR), Tried.part(1, -FAR, FAR));
    }

    static void promise7_pointsAtTheFarthestPlacesAreTaken() {
        Tried t = Tried.round();
        t.due(t.arc(FAR - 65536, 65536 - FAR, 0, 360 * DEGREE, 0), 5);
        t.due(t.arc(65536 - FAR, FAR - 65536, 0, -360 * DEGREE, 1), 10);
        t.dueBounds(-FAR, -FAR, FAR, FAR);
    }

    static void promise7_aBeginningBeyondIsRange() {
        Tried t = laid(0, 0, 0);
        t.refused(Tried.RANGE, () -> t.arc(FAR - 65535, 0, 0, 0, 0));
        t.refused(Tried.RANGE, () -> t.arc(65535 - FAR, 0, 180 * DEGREE, 180 * DEGREE, 0));
        t.refused(Tried.RANGE, () -> t.arc(0, FAR - 65535, 90 * DEGREE, 90 * DEGREE, 1));
        t.refused(Tried.RANGE, () -> t.arc(0, 65535 - FAR, 270 * DEGREE, 270 * DEGREE, 1));
    }

    static void promise7_anEndBeyondIsRange() {
        Tried t = laid(0, 0, 0);
        t.refused(Tried.RANGE, () -> t.arc(FAR - 65535, 0, 270 * DEGREE, 360 * DEGREE, 0));
        t.refused(Tried.RANGE, () -> t.arc(0, 65535 - FAR, 0, -90 * DEGREE, 1));
    }

    static void promise7_aControlPointBeyondIsRangeThoughTheEndsAreNot() {
        Tried t = new Tried();
        t.axes(65536, 0, 65536, 0);
        t.refused(Tried.RANGE, () -> t.arc(FAR - 101730, 0, 0, 90 * DEGREE, 0));
        t.due(t.arc(FAR - 101731, 0, 0, 90 * DEGREE, 0), 2);
        t.refused(Tried.RANGE, () -> t.arc(101730 - FAR, 0, 270 * DEGREE, 180 * DEGREE, 1));
        t.due(t.arc(101731 - FAR, 0, 270 * DEGREE, 180 * DEGREE, 1), 4);
        t.axes(0, 65536, 0, 65536);
        t.refused(Tried.RANGE, () -> t.arc(0, FAR - 101730, 0, 90 * DEGREE, 0));
        t.refused(Tried.RANGE, () -> t.arc(0, 101730 - FAR, 270 * DEGREE, 180 * DEGREE, 1));
    }

    static void promise7_theGreatestAxesNeitherWrapNorStayNear() {
        Tried t = new Tried();
        t.axes(FAR, FAR, FAR, FAR);
        t.refused(Tried.RANGE, () -> t.arc(FAR, FAR, 0, 90 * DEGREE, 0));
        t.refused(Tried.RANGE, () -> t.arc(0, 0, 0, 90 * DEGREE, 0));
        t.due(t.arc(-FAR, -FAR, 0, 90 * DEGREE, 0), 2);
        t.dueParts(Tried.part(0, 0, 0), Tried.part(2, 0, 0, 296509440, 296509440, 296509440, 296509440));
    }

    static void promise7_pointsOfPartsThatAreNotLaidMayBeBeyond() {
        Tried t = Tried.round();
        t.due(t.arc(FAR - 60000, 0, 45 * DEGREE, 90 * DEGREE, 0), 2);
        t.due(t.arc(FAR, 0, 90 * DEGREE, 270 * DEGREE, 0), 5);
    }

    static void promise7_rangeLeavesNoPathEmpty() {
        Tried t = Tried.round();
        t.refused(Tried.RANGE, () -> t.arc(0, FAR, 0, 90 * DEGREE, 0));
        t.dueNoPath();
    }

    static void promise7_rangeBehindClosingBeginsNothing() {
        Tried t = laid(0, 90 * DEGREE, 0);
        t.close();
        t.refused(Tried.RANGE, () -> t.arc(0, FAR, 0, 90 * DEGREE, 0));
        t.due(t.close(), 3);
    }

    static void promise7_withoutAPointASubpathBegins() {
        Tried t = new Tried();
        t.due(t.arc(5, 6, 0, 90 * DEGREE, 0), 2);
        t.due(t.kind(0), 0);
        t.clear();
        t.due(t.arc(5, 6, 0, 90 * DEGREE, 1), 4);
        t.due(t.kind(0), 0);
        t.due(t.kind(1), 2);
    }

    static void promise7_aLineGoesToItsBeginningIfThereIsAPoint() {
        Tried t = Tried.round();
        t.move(1, 2);
        t.line(3, 4);
        t.due(t.arc(0, 0, 0, 90 * DEGREE, 0), 4);
        t.dueParts(Tried.part(0, 1, 2), Tried.part(1, 3, 4), Tried.part(1, 65536, 0), FIRST);
        t.duePoint(0, 65536);
    }

    static void promise7_aLineGoesBehindABeginningToo() {
        Tried t = Tried.round();
        t.move(1, 2);
        t.due(t.arc(0, 0, 90 * DEGREE, 0, 1), 3);
        t.dueParts(Tried.part(0, 1, 2), Tried.part(1, 0, 65536), FIRST_BACK);
    }

    static void promise7_aLineGoesToItsBeginningThoughThePointIsThere() {
        Tried t = laid(0, 90 * DEGREE, 0);
        t.due(t.arc(0, 0, 90 * DEGREE, 0, 1), 4);
        t.dueParts(Tried.part(0, 65536, 0), FIRST, Tried.part(1, 0, 65536), FIRST_BACK);
    }

    static void promise7_behindClosingANewSubpathBeginsAtThePoint() {
        Tried t = Tried.round();
        t.move(1, 2);
        t.line(3, 4);
        t.close();
        t.due(t.arc(0, 0, 0, 90 * DEGREE, 0), 6);
        t.dueParts(Tried.part(0, 1, 2), Tried.part(1, 3, 4), Tried.part(3, 1, 2),
                Tried.part(0, 1, 2), Tried.part(1, 65536, 0), FIRST);
    }

    static void promise7_withoutAPartALineGoesToThePoint() {
        Tried t = Tried.round();
        t.move(1, 2);
        t.due(t.arc(5, 6, 90 * DEGREE, 90 * DEGREE, 0), 2);
        t.close();
        t.due(t.arc(7, 8, 0, 0, 1), 5);
        t.dueParts(Tried.part(0, 1, 2), Tried.part(1, 5, 65542), Tried.part(3, 1, 2),
                Tried.part(0, 1, 2), Tried.part(1, 65543, 8));
    }

    static void promise7_afterClearASubpathBegins() {
        Tried t = laid(0, 90 * DEGREE, 0);
        t.clear();
        t.due(t.arc(0, 0, 0, 90 * DEGREE, 0), 2);
        t.dueParts(Tried.part(0, 65536, 0), FIRST);
    }

    static void promise7_theLastPartsThatThereIsRoomFor() {
        Tried t = Tried.filled(2998);
        t.due(t.arc(1, 2, 0, 90 * DEGREE, 0), 3000);
        t.duePart(2998, 1, 1, 2);
        t.duePart(2999, 2, 1, 2, 1, 2, 1, 2);
        Tried widest = Tried.filled(2958);
        widest.due(widest.arc(1, 2, 45 * DEGREE, 3645 * DEGREE, 0), 3000);
    }

    static void promise7_oneCurveTooManyIsFull() {
        Tried t = Tried.filled(2999);
        t.refused(Tried.FULL, () -> t.arc(1, 2, 0, 90 * DEGREE, 0));
        Tried widest = Tried.filled(2959);
        widest.refused(Tried.FULL, () -> widest.arc(1, 2, 45 * DEGREE, -3555 * DEGREE, 1));
    }

    static void promise7_withoutAPartThereMustBeRoomForALine() {
        Tried t = Tried.filled(2999);
        t.due(t.arc(1, 2, 0, 0, 0), 3000);
        t.refused(Tried.FULL, () -> t.arc(1, 2, 0, 0, 1));
    }

    static void promise7_behindClosingThereMustBeRoomForABeginningToo() {
        Tried t = Tried.filledAndClosed(2997);
        t.due(t.arc(1, 2, 90 * DEGREE, 0, 1), 3000);
        t.duePart(2997, 0, 0, 0);
        t.duePart(2998, 1, 1, 2);
        t.duePart(2999, 2, 1, 2, 1, 2, 1, 2);
    }

    static void promise7_behindClosingOnePartTooManyIsFull() {
        Tried t = Tried.filledAndClosed(2998);
        t.refused(Tried.FULL, () -> t.arc(1, 2, 90 * DEGREE, 0, 1));
        t.due(t.arc(1, 2, 0, 0, 0), 3000);
        Tried closed = Tried.filledAndClosed(2999);
        closed.refused(Tried.FULL, () -> closed.arc(1, 2, 0, 0, 0));
    }

    static void promise7_rangeBeforeFull() {
        Tried t = Tried.filled(3000);
        t.axes(FAR, 0, 0, FAR);
        t.due(t.arc(0, FAR + 1, 0, 0, 0), Tried.RANGE);
        t.due(t.arc(0, 0, 0, 3600 * DEGREE + 1, 0), Tried.RANGE);
        t.refused(Tried.RANGE, () -> t.arc(1, 0, 0, 0, 0));
        t.refused(Tried.FULL, () -> t.arc(0, 0, 0, 0, 0));
    }
}
