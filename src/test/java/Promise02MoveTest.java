/** Promise 2: move. */
public final class Promise02MoveTest {
    private static final int FAR = Tried.FAR;

    public static void main(String[] args) {
        Checking.runAll(Promise02MoveTest.class, "promise2");
    }

    private static Tried begunAt(int x, int y) {
        Tried t = new Tried();
        t.due(t.move(x, y), 1);
        return t;
    }

    static void promise2_aSubpathBeginsAndThePartsAreCounted() {
        Tried t = begunAt(1, 2);
        t.line(3, 4);
        t.due(t.move(5, 6), 3);
        t.dueParts(Tried.part(0, 1, 2), Tried.part(1, 3, 4), Tried.part(0, 5, 6));
        t.duePoint(5, 6);
    }

    static void promise2_theFarthestPlacesAreTaken() {
        int[][] corners = {{FAR, FAR}, {FAR, -FAR}, {-FAR, FAR}, {-FAR, -FAR}};
        for (int[] corner : corners) {
            begunAt(corner[0], corner[1]).dueParts(Tried.part(0, corner[0], corner[1]));
        }
    }

    static void promise2_onePlaceTooLargeIsRange() {
        Tried t = begunAt(3, 4);
        t.refused(Tried.RANGE, () -> t.move(FAR + 1, 0));
        t.refused(Tried.RANGE, () -> t.move(0, FAR + 1));
    }

    static void promise2_onePlaceTooSmallIsRange() {
        Tried t = begunAt(3, 4);
        t.refused(Tried.RANGE, () -> t.move(-FAR - 1, 0));
        t.refused(Tried.RANGE, () -> t.move(0, -FAR - 1));
    }

    static void promise2_theEndsOfIntAreRange() {
        Tried t = begunAt(3, 4);
        t.refused(Tried.RANGE, () -> t.move(Tried.HIGHEST, 0));
        t.refused(Tried.RANGE, () -> t.move(0, Tried.HIGHEST));
        t.refused(Tried.RANGE, () -> t.move(Tried.LOWEST, 0));
        t.refused(Tried.RANGE, () -> t.move(0, Tried.LOWEST));
    }

    static void promise2_rangeLeavesNoPathEmpty() {
        Tried t = new Tried();
        t.refused(Tried.RANGE, () -> t.move(FAR + 1, 1));
        t.dueNoPath();
        t.due(t.line(1, 1), Tried.NO);
    }

    static void promise2_rangeBeginsNoSubpathBehindASegment() {
        Tried t = begunAt(1, 2);
        t.line(3, 4);
        t.refused(Tried.RANGE, () -> t.move(1, -FAR - 1));
        t.due(t.line(5, 6), 3);
        t.dueParts(Tried.part(0, 1, 2), Tried.part(1, 3, 4), Tried.part(1, 5, 6));
    }

    static void promise2_inThePlaceOfOneThatOnlyBegan() {
        Tried t = begunAt(FAR, -FAR);
        t.due(t.move(3, 4), 1);
        t.due(t.move(5, 6), 1);
        t.dueParts(Tried.part(0, 5, 6));
        t.dueBounds(5, 6, 5, 6);
    }

    static void promise2_inThePlaceOfALaterOneThatOnlyBegan() {
        Tried t = begunAt(1, 2);
        t.line(3, 4);
        t.move(5, 6);
        t.due(t.move(7, 8), 3);
        t.dueParts(Tried.part(0, 1, 2), Tried.part(1, 3, 4), Tried.part(0, 7, 8));
        t.due(t.close(), 4);
        t.duePart(3, 3, 7, 8);
    }

    static void promise2_inThePlaceOfABeginningThatAnArcWithoutAPartLaid() {
        Tried t = new Tried();
        t.due(t.arc(1, 2, 0, 0, 0), 1);
        t.due(t.move(3, 4), 1);
        t.dueParts(Tried.part(0, 3, 4));
    }

    static void promise2_inThePlaceOfOneThatOnlyBeganAfterReverseAndFlatten() {
        Tried t = begunAt(1, 2);
        t.line(3, 4);
        t.move(5, 6);
        t.reverse();
        t.due(t.move(7, 8), 3);
        t.flatten(1);
        t.due(t.move(9, 10), 3);
        t.dueParts(Tried.part(0, 3, 4), Tried.part(1, 1, 2), Tried.part(0, 9, 10));
    }

    static void promise2_notInThePlaceOfOneThatIsClosed() {
        Tried t = begunAt(1, 2);
        t.close();
        t.due(t.move(3, 4), 3);
        t.dueParts(Tried.part(0, 1, 2), Tried.part(3, 1, 2), Tried.part(0, 3, 4));
    }

    static void promise2_notInThePlaceOfOneThatGoesOn() {
        Tried t = begunAt(1, 2);
        t.curve(1, 2, 1, 2, 1, 2);
        t.due(t.move(3, 4), 3);
        t.dueParts(Tried.part(0, 1, 2), Tried.part(2, 1, 2, 1, 2, 1, 2), Tried.part(0, 3, 4));
    }

    static void promise2_theLastPartThatThereIsRoomFor() {
        Tried t = Tried.filled(2999);
        t.due(t.move(1, 2), 3000);
        t.duePart(2999, 0, 1, 2);
    }

    static void promise2_fullBehindASegment() {
        Tried t = Tried.filled(3000);
        t.refused(Tried.FULL, () -> t.move(1, 2));
    }

    static void promise2_fullBehindClosing() {
        Tried t = Tried.filledAndClosed(3000);
        t.refused(Tried.FULL, () -> t.move(1, 2));
    }

    static void promise2_inItsPlaceThereIsRoomInAFullPath() {
        Tried t = Tried.filled(2999);
        t.due(t.move(1, 2), 3000);
        t.due(t.move(3, 4), 3000);
        t.duePart(2999, 0, 3, 4);
    }

    static void promise2_rangeBeforeFull() {
        Tried t = Tried.filled(3000);
        t.refused(Tried.RANGE, () -> t.move(FAR + 1, 0));
        t.refused(Tried.RANGE, () -> t.move(0, -FAR - 1));
    }
}
