/** Promise 9: reverse. */
public final class Promise09ReverseTest {
    public static void main(String[] args) {
        Checking.runAll(Promise09ReverseTest.class, "promise9");
    }

    private static Tried lineAndCurve() {
        Tried t = new Tried();
        t.move(1, 2);
        t.line(3, 4);
        t.curve(5, 6, 7, 8, 9, 10);
        return t;
    }

    static void promise9_noPathStaysNone() {
        Tried t = new Tried();
        t.due(t.reverse(), 0);
        t.dueNoPath();
    }

    static void promise9_anOpenOneGoesFromItsEndToItsBeginning() {
        Tried t = lineAndCurve();
        t.due(t.reverse(), 3);
        t.dueParts(Tried.part(0, 9, 10), Tried.part(2, 3, 4, 7, 8, 5, 6), Tried.part(1, 1, 2));
        t.duePoint(1, 2);
    }

    static void promise9_aClosedOneGoesFromItsLatestPointBackAndIsClosed() {
        Tried t = lineAndCurve();
        t.close();
        t.due(t.reverse(), 4);
        t.dueParts(Tried.part(0, 9, 10), Tried.part(2, 3, 4, 7, 8, 5, 6), Tried.part(1, 1, 2), Tried.part(3, 9, 10));
        t.duePoint(9, 10);
    }

    static void promise9_oneThatOnlyBeganStays() {
        Tried t = new Tried();
        t.move(1, 2);
        t.due(t.reverse(), 1);
        t.dueParts(Tried.part(0, 1, 2));
        t.duePoint(1, 2);
    }

    static void promise9_oneThatBeganAndClosedStays() {
        Tried t = new Tried();
        t.move(1, 2);
        t.close();
        t.due(t.reverse(), 2);
        t.dueParts(Tried.part(0, 1, 2), Tried.part(3, 1, 2));
        t.duePoint(1, 2);
    }

    static void promise9_theSubpathsStayInTheirOrder() {
        Tried t = new Tried();
        t.move(1, 1);
        t.line(2, 2);
        t.close();
        t.line(3, 3);
        t.move(4, 4);
        t.curve(5, 5, 6, 6, 7, 7);
        t.close();
        t.move(8, 8);
        t.due(t.reverse(), 9);
        t.dueParts(Tried.part(0, 2, 2), Tried.part(1, 1, 1), Tried.part(3, 2, 2), Tried.part(0, 3, 3),
                Tried.part(1, 1, 1), Tried.part(0, 7, 7), Tried.part(2, 4, 4, 6, 6, 5, 5), Tried.part(3, 7, 7),
                Tried.part(0, 8, 8));
        t.duePoint(8, 8);
    }

    static void promise9_closedOnesAndOpenOnesStayAsTheyAre() {
        Tried t = new Tried();
        t.move(1, 1);
        t.line(2, 2);
        t.move(3, 3);
        t.line(4, 4);
        t.close();
        t.move(5, 5);
        t.line(6, 6);
        t.due(t.reverse(), 7);
        t.dueParts(Tried.part(0, 2, 2), Tried.part(1, 1, 1), Tried.part(0, 4, 4), Tried.part(1, 3, 3),
                Tried.part(3, 4, 4), Tried.part(0, 6, 6), Tried.part(1, 5, 5));
    }

    static void promise9_manySegmentsOfBothKindsKeepTheirPoints() {
        Tried t = new Tried();
        t.move(1, -1);
        t.curve(2, -2, 3, -3, 4, -4);
        t.line(5, -5);
        t.line(6, -6);
        t.curve(7, -7, 8, -8, 9, -9);
        t.curve(10, -10, 11, -11, 12, -12);
        t.due(t.reverse(), 6);
        t.dueParts(Tried.part(0, 12, -12), Tried.part(2, 9, -9, 11, -11, 10, -10),
                Tried.part(2, 6, -6, 8, -8, 7, -7), Tried.part(1, 5, -5), Tried.part(1, 4, -4),
                Tried.part(2, 1, -1, 3, -3, 2, -2));
    }

    static void promise9_twiceIsAsBefore() {
        Tried t = lineAndCurve();
        t.close();
        t.curve(11, 12, 13, 14, 15, 16);
        t.line(17, 18);
        String before = t.state();
        t.due(t.reverse(), 7);
        t.due(t.reverse(), 7);
        Checking.due("twice turned round", t.state(), before);
    }

    static void promise9_anOpenOneGoesOnFromItsNewEnd() {
        Tried t = lineAndCurve();
        t.reverse();
        t.due(t.line(11, 12), 4);
        t.due(t.close(), 5);
        t.dueParts(Tried.part(0, 9, 10), Tried.part(2, 3, 4, 7, 8, 5, 6), Tried.part(1, 1, 2),
                Tried.part(1, 11, 12), Tried.part(3, 9, 10));
    }

    static void promise9_behindAClosedOneANewSubpathBeginsAtItsNewBeginning() {
        Tried t = lineAndCurve();
        t.close();
        t.reverse();
        t.due(t.line(11, 12), 6);
        t.duePart(4, 0, 9, 10);
        t.duePart(5, 1, 11, 12);
    }

    static void promise9_aTurnedCurveIsFlattenedFromItsNewBeginning() {
        Tried t = new Tried();
        t.move(0, 0);
        t.curve(0, 0, 2, -2, 4, -4);
        t.line(9, 9);
        t.reverse();
        t.due(t.flatten(2), 4);
        t.dueParts(Tried.part(0, 9, 9), Tried.part(1, 4, -4), Tried.part(1, 1, -2), Tried.part(1, 0, 0));
    }

    static void promise9_theBoundsStay() {
        Tried t = lineAndCurve();
        t.reverse();
        t.dueBounds(1, 2, 9, 10);
    }

    static void promise9_aFullPathIsTurned() {
        Tried t = Tried.filled(3000);
        t.due(t.reverse(), 3000);
        t.duePart(0, 0, 11, 12);
        t.duePart(1, 1, 12, 13);
        t.duePart(2999, 2, 0, 0, 0, 0, 0, 0);
        t.duePoint(0, 0);
    }
}
