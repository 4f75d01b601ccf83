/** Promise 3: line. */
public final class Promise03LineTest {
    private static final int FAR = Tried.FAR;

    public static void main(String[] args) {
        Checking.runAll(Promise03LineTest.class, "promise3");
    }

    private static Tried begun() {
        Tried t = new Tried();
        t.due(t.move(1, 2), 1);
        return t;
    }

    static void promise3_aLineToAPointAndThePartsAreCounted() {
        Tried t = begun();
        t.due(t.line(3, 4), 2);
        t.due(t.line(5, 6), 3);
        t.dueParts(Tried.part(0, 1, 2), Tried.part(1, 3, 4), Tried.part(1, 5, 6));
        t.duePoint(5, 6);
    }

    static void promise3_aLineToThePointIsAPartToo() {
        Tried t = begun();
        t.due(t.line(1, 2), 2);
        t.due(t.line(1, 2), 3);
        t.dueParts(Tried.part(0, 1, 2), Tried.part(1, 1, 2), Tried.part(1, 1, 2));
    }

    static void promise3_noWithoutAPath() {
        Tried t = new Tried();
        t.refused(Tried.NO, () -> t.line(1, 2));
        t.dueNoPath();
    }

    static void promise3_noWhenThePathIsGone() {
        Tried t = begun();
        t.line(3, 4);
        t.clear();
        t.refused(Tried.NO, () -> t.line(1, 2));
        t.dueNoPath();
    }

    static void promise3_noBeforeRange() {
        Tried t = new Tried();
        t.refused(Tried.NO, () -> t.line(FAR + 1, 0));
        t.refused(Tried.NO, () -> t.line(0, -FAR - 1));
        t.refused(Tried.NO, () -> t.line(Tried.LOWEST, Tried.HIGHEST));
    }

    static void promise3_theFarthestPlacesAreTaken() {
        Tried t = begun();
        t.due(t.line(FAR, -FAR), 2);
        t.due(t.line(-FAR, FAR), 3);
        t.dueParts(Tried.part(0, 1, 2), Tried.part(1, FAR, -FAR), Tried.part(1, -FAR, FAR));
    }

    static void promise3_onePlaceTooLargeIsRange() {
        Tried t = begun();
        t.refused(Tried.RANGE, () -> t.line(FAR + 1, 0));
        t.refused(Tried.RANGE, () -> t.line(0, FAR + 1));
        t.refused(Tried.RANGE, () -> t.line(Tried.HIGHEST, 0));
        t.refused(Tried.RANGE, () -> t.line(0, Tried.HIGHEST));
    }

    static void promise3_onePlaceTooSmallIsRange() {
        Tried t = begun();
        t.refused(Tried.RANGE, () -> t.line(-FAR - 1, 0));
        t.refused(Tried.RANGE, () -> t.line(0, -FAR - 1));
        t.refused(Tried.RANGE, () -> t.line(Tried.LOWEST, 0));
        t.refused(Tried.RANGE, () -> t.line(0, Tried.LOWEST));
    }

    static void promise3_rangeBehindClosingBeginsNothing() {
        Tried t = begun();
        t.close();
        t.refused(Tried.RANGE, () -> t.line(FAR + 1, 0));
        t.due(t.close(), 2);
    }

    static void promise3_behindClosingANewSubpathBeginsAtThePoint() {
        Tried t = begun();
        t.line(3, 4);
        t.close();
        t.due(t.line(5, 6), 5);
        t.due(t.line(7, 8), 6);
        t.due(t.close(), 7);
        t.dueParts(Tried.part(0, 1, 2), Tried.part(1, 3, 4), Tried.part(3, 1, 2),
                Tried.part(0, 1, 2), Tried.part(1, 5, 6), Tried.part(1, 7, 8), Tried.part(3, 1, 2));
    }

    static void promise3_theLastPartThatThereIsRoomFor() {
        Tried t = Tried.filled(2999);
        t.due(t.line(1, 2), 3000);
        t.duePart(2999, 1, 1, 2);
    }

    static void promise3_fullAtThreeThousandParts() {
        Tried t = Tried.filled(3000);
        t.refused(Tried.FULL, () -> t.line(1, 2));
    }

    static void promise3_behindClosingThereMustBeRoomForTwo() {
        Tried t = Tried.filledAndClosed(2998);
        t.due(t.line(1, 2), 3000);
        t.duePart(2998, 0, 0, 0);
        t.duePart(2999, 1, 1, 2);
    }

    static void promise3_behindClosingRoomForOneIsFull() {
        Tried t = Tried.filledAndClosed(2999);
        t.refused(Tried.FULL, () -> t.line(1, 2));
        t.due(t.move(1, 2), 3000);
    }

    static void promise3_rangeBeforeFull() {
        Tried t = Tried.filled(3000);
        t.refused(Tried.RANGE, () -> t.line(0, FAR + 1));
        t.refused(Tried.RANGE, () -> t.line(-FAR - 1, 0));
    }
}
