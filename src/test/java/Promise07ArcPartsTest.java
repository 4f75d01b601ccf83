/** Promise 7 and "ARCS" of the terms: quarters, places in them, parts of curves, and how all is rounded. */
public final class Promise07ArcPartsTest {
    private static final int DEGREE = Tried.DEGREE;
    private static final int QUARTER_TURN = 90 * DEGREE;

    public static void main(String[] args) {
        Checking.runAll(Promise07ArcPartsTest.class, "promise7");
    }

    /** An arc around (0, 0) as the whole path. */
    private static Tried laid(int s, int e, int way) {
        Tried t = Tried.round();
        t.arc(0, 0, s, e, way);
        return t;
    }

    private static void duePointAt(int angle, int x, int y) {
        laid(angle, angle, 0).dueParts(Tried.part(0, x, y));
        laid(angle, angle, 1).dueParts(Tried.part(0, x, y));
    }

    private static void dueCurveCount(int s, int e, int curves) {
        Tried forward = laid(s, e, 0);
        forward.due(forward.parts(), 1 + curves);
        Tried back = laid(e, s, 1);
        back.due(back.parts(), 1 + curves);
    }

    private static final int[][] QUARTERS = {
        {2, 0, 65536, 65536, 36195, 36195, 65536},
        {2, -65536, 0, -36195, 65536, -65536, 36195},
        {2, 0, -65536, -65536, -36195, -36195, -65536},
        {2, 65536, 0, 36195, -65536, 65536, -36195},
    };
    private static final int[][] BEGINNINGS = {{0, 65536, 0}, {0, 0, 65536}, {0, -65536, 0}, {0, 0, -65536}};

    private static void dueQuarter(int number, int remainder) {
        Tried t = laid(number * QUARTER_TURN, (number + 1) * QUARTER_TURN, 0);
        t.dueParts(BEGINNINGS[remainder], QUARTERS[remainder]);
    }

    static void promise7_eachQuarterIsTheOneBeforeTurned() {
        for (int k = 0; k < 4; k++) {
            dueQuarter(k, k);
        }
    }

    static void promise7_quartersAboveThreeAreTakenByTheirRemainder() {
        for (int k = 0; k < 4; k++) {
            dueQuarter(4 + k, k);
        }
        dueQuarter(361, 1);
        dueQuarter(363, 3);
    }

    static void promise7_quartersBelowZeroAreTakenByTheirRemainder() {
        for (int k = 0; k < 4; k++) {
            dueQuarter(k - 4, k);
        }
        dueQuarter(-364, 0);
        dueQuarter(-361, 3);
    }

    static void promise7_allQuartersBetweenAreLaidWhole() {
        Tried t = laid(-1 * QUARTER_TURN, 3 * QUARTER_TURN, 0);
        t.dueParts(BEGINNINGS[3], QUARTERS[3], QUARTERS[0], QUARTERS[1], QUARTERS[2]);
    }

    static void promise7_whereAQuarterEndsTheNextOneBegins() {
        duePointAt(QUARTER_TURN, 0, 65536);
        dueCurveCount(0, QUARTER_TURN, 1);
        dueCurveCount(QUARTER_TURN, QUARTER_TURN + 100, 1);
    }

    static void promise7_aPlaceIsRoundedHalfUp() {
        dueCurveCount(0, 44, 0);
        dueCurveCount(0, 45, 1);
        dueCurveCount(45, 134, 0);
        dueCurveCount(45, 135, 1);
        dueCurveCount(44, 45, 1);
    }

    static void promise7_aPlaceIsRoundedHalfUpBelowZeroToo() {
        dueCurveCount(-45, -1, 0);
        dueCurveCount(-46, -45, 1);
        dueCurveCount(-135, -46, 0);
        dueCurveCount(-136, -135, 1);
    }

    static void promise7_theLastPlaceOfAQuarterIs65536() {
        duePointAt(QUARTER_TURN - 45, 0, 65536);
        duePointAt(QUARTER_TURN - 1, 0, 65536);
        duePointAt(QUARTER_TURN - 46, 3, 65536);
        laid(0, QUARTER_TURN - 45, 0).dueParts(BEGINNINGS[0], QUARTERS[0]);
    }

    static void promise7_fromTheLastPlaceOnlyTheNextQuarterHasAPart() {
        laid(QUARTER_TURN - 1, QUARTER_TURN + 45, 0)
                .dueParts(Tried.part(0, 0, 65536), Tried.part(2, -3, 65536, -1, 65536, -2, 65536));
        laid(QUARTER_TURN - 1, 2 * QUARTER_TURN, 0).dueParts(BEGINNINGS[1], QUARTERS[1]);
    }

    static void promise7_toTheFirstPlaceTheLastQuarterHasNoPart() {
        laid(0, QUARTER_TURN + 44, 0).dueParts(BEGINNINGS[0], QUARTERS[0]);
        dueCurveCount(0, QUARTER_TURN + 45, 2);
    }

    static void promise7_withoutAPartItIsThePointAtItsPlace() {
        duePointAt(30 * DEGREE, 56589, 33077);
        duePointAt(210 * DEGREE, -56589, -33077);
        duePointAt(-150 * DEGREE, -56589, -33077);
    }

    static void promise7_withoutAPartAtPlaceZeroItIsWhereTheQuarterBegins() {
        duePointAt(0, 65536, 0);
        duePointAt(44, 65536, 0);
        duePointAt(-QUARTER_TURN, 0, -65536);
    }

    static void promise7_withoutAPartAcrossTwoQuartersItIsThePointBetween() {
        laid(QUARTER_TURN - 1, QUARTER_TURN + 1, 0).dueParts(Tried.part(0, 0, 65536));
        laid(QUARTER_TURN + 1, QUARTER_TURN - 1, 1).dueParts(Tried.part(0, 0, 65536));
        laid(1, -1, 1).dueParts(Tried.part(0, 65536, 0));
    }

    static void promise7_thePartBeforeAPlace() {
        laid(0, 45 * DEGREE, 0)
                .dueParts(Tried.part(0, 65536, 0), Tried.part(2, 46342, 46342, 65536, 18098, 58201, 34482));
    }

    static void promise7_thePartBehindAPlace() {
        laid(45 * DEGREE, 90 * DEGREE, 0)
                .dueParts(Tried.part(0, 46342, 46342), Tried.part(2, 0, 65536, 34482, 58201, 18098, 65536));
    }

    static void promise7_thePartBetweenTwoPlaces() {
        laid(30 * DEGREE, 60 * DEGREE, 0)
                .dueParts(Tried.part(0, 56589, 33077), Tried.part(2, 33077, 56589, 50901, 42786, 42786, 50901));
    }

    static void promise7_aPartFromTheFirstPlaceAboveZeroIsNotTheWhole() {
        laid(45, 225, 0).dueParts(Tried.part(0, 65536, 3), Tried.part(2, 65536, 6, 65536, 4, 65536, 5));
        laid(45, QUARTER_TURN, 0)
                .dueParts(Tried.part(0, 65536, 3), Tried.part(2, 0, 65536, 65536, 36195, 36194, 65536));
    }

    static void promise7_whatIsBeforeIsTakenFirstAndTheRestIsRounded() {
        // 1 degree is place 728, 5 degrees 3641: 728 * 65536 / 3641 lies nearer to 13104 than to 13103.
        laid(1 * DEGREE, 5 * DEGREE, 0)
                .dueParts(Tried.part(0, 65525, 1204), Tried.part(2, 65268, 5966, 65496, 2806, 65410, 4394));
        laid(1 * DEGREE, 20 * DEGREE, 0)
                .dueParts(Tried.part(0, 65525, 1203), Tried.part(2, 61436, 22869, 65389, 8813, 63954, 16105));
    }

    static void promise7_itBeginsWithTheFirstPointOfTheFirstPart() {
        // The part's own rounding brings it one further than the point at that place.
        laid(1 * DEGREE, 5 * DEGREE, 0).duePart(0, 0, 65525, 1204);
        duePointAt(1 * DEGREE, 65525, 1203);
    }

    static void promise7_aQuarterIsTurnedBeforeItIsMixed() {
        laid(91 * DEGREE, 135 * DEGREE, 0)
                .dueParts(Tried.part(0, -1203, 65525), Tried.part(2, -46340, 46342, -18823, 65208, -34744, 57938));
        duePointAt(135 * DEGREE, -46340, 46342);
        duePointAt(225 * DEGREE, -46340, -46340);
        duePointAt(315 * DEGREE, 46342, -46340);
    }

    static void promise7_mixingIsRoundedHalfUpForWhatGrowsLess() {
        laid(0, 1 * DEGREE, 0)
                .dueParts(Tried.part(0, 65536, 0), Tried.part(2, 65525, 1203, 65536, 402, 65532, 803));
        laid(180 * DEGREE, 181 * DEGREE, 0)
                .dueParts(Tried.part(0, -65536, 0), Tried.part(2, -65525, -1203, -65536, -402, -65532, -803));
    }

    static void promise7_theFirstAndTheLastQuarterMayBothBeParts() {
        laid(60 * DEGREE, 120 * DEGREE, 0).dueParts(Tried.part(0, 33077, 56589),
                Tried.part(2, 0, 65536, 23368, 62276, 12065, 65536),
                Tried.part(2, -33077, 56589, -12065, 65536, -23368, 62276));
    }

    static void promise7_theWidestArcTouches41Quarters() {
        Tried t = laid(45 * DEGREE, 3645 * DEGREE, 0);
        t.due(t.parts(), 42);
        t.duePart(0, 0, 46342, 46342);
        t.duePart(1, 2, 0, 65536, 34482, 58201, 18098, 65536);
        t.duePart(40, QUARTERS[3]);
        t.duePart(41, 2, 46342, 46342, 65536, 18098, 58201, 34482);
    }

    static void promise7_theWidestArcBackTouches41Quarters() {
        Tried t = laid(45 * DEGREE, -3555 * DEGREE, 1);
        t.due(t.parts(), 42);
        t.duePart(0, 0, 46342, 46342);
        t.duePart(1, 2, 65536, 0, 58201, 34482, 65536, 18098);
        t.duePart(41, 2, 46342, 46342, 18098, 65536, 34482, 58201);
    }

    static void promise7_theOtherWayEachCurveIsTurnedRound() {
        laid(60 * DEGREE, 30 * DEGREE, 1)
                .dueParts(Tried.part(0, 33077, 56589), Tried.part(2, 56589, 33077, 42786, 50901, 50901, 42786));
        laid(120 * DEGREE, 60 * DEGREE, 1).dueParts(Tried.part(0, -33077, 56589),
                Tried.part(2, 0, 65536, -23368, 62276, -12065, 65536),
                Tried.part(2, 33077, 56589, 12065, 65536, 23368, 62276));
    }

    static void promise7_theOtherWayItIsReckonedFromTheLesserAngle() {
        laid(5 * DEGREE, 1 * DEGREE, 1)
                .dueParts(Tried.part(0, 65268, 5966), Tried.part(2, 65525, 1204, 65410, 4394, 65496, 2806));
    }

    static void promise7_placesAreRoundedHalfUp() {
        Tried t = new Tried();
        // 36195 / 2 lies between two units, and so does its opposite: both go up.
        t.axes(32768, -32768, 0, 0);
        t.arc(0, 0, 0, QUARTER_TURN, 0);
        t.dueParts(Tried.part(0, 32768, -32768), Tried.part(2, 0, 0, 32768, -32768, 18098, -18097));
    }

    static void promise7_placesAreRoundedHalfUpAlongTheSecondAxisToo() {
        Tried t = new Tried();
        t.axes(0, 0, 32768, -32768);
        t.arc(0, 0, 0, QUARTER_TURN, 0);
        t.dueParts(Tried.part(0, 0, 0), Tried.part(2, 32768, -32768, 18098, -18097, 32768, -32768));
    }

    static void promise7_theSumIsRoundedOnceAndOnTheUnitCircle() {
        Tried t = new Tried();
        // 0.707 of each axis is 1.414 in all: 1, where each one rounded would give 2.
        t.axes(1, 1, 1, 1);
        t.arc(10, -10, 45 * DEGREE, 45 * DEGREE, 0);
        t.arc(10, -10, 225 * DEGREE, 225 * DEGREE, 0);
        t.dueParts(Tried.part(0, 11, -9), Tried.part(1, 9, -11));
    }

    static void promise7_theAxesNeedNotBeUprightOrEven() {
        Tried t = new Tried();
        t.axes(131072, 65536, -65536, 196608);
        t.arc(1000, 2000, 0, QUARTER_TURN, 0);
        t.dueParts(Tried.part(0, 132072, 67536), Tried.part(2, -64536, 198608, 95877, 176121, 7854, 234803));
    }

    static void promise7_theGreatestAxesAreReckonedExactly() {
        Tried t = new Tried();
        t.axes(Tried.FAR, 0, 0, -Tried.FAR);
        t.arc(0, 0, 0, QUARTER_TURN, 0);
        t.dueParts(Tried.part(0, Tried.FAR, 0),
                Tried.part(2, 0, -Tried.FAR, Tried.FAR, -296509440, 296509440, -Tried.FAR));
    }
}
