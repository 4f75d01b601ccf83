/** Promise 5: close. */
public final class Promise05CloseTest {
    public static void main(String[] args) {
        Checking.runAll(Promise05CloseTest.class, "promise5");
    }

    private static Tried lineFromOneTwo() {
        Tried t = new Tried();
        t.move(1, 2);
        t.due(t.line(3, 4), 2);
        return t;
    }

    static void promise5_theSubpathIsClosedAndThePartsAreCounted() {
        Tried t = lineFromOneTwo();
        t.due(t.close(), 3);
        t.dueParts(Tried.part(0, 1, 2), Tried.part(1, 3, 4), Tried.part(3, 1, 2));
    }

    static void promise5_nothingIsDoneWhenThereIsNone() {
        Tried t = new Tried();
        t.due(t.close(), 0);
        t.dueNoPath();
    }

    static void promise5_nothingIsDoneWhenThePathIsGone() {
        Tried t = lineFromOneTwo();
        t.clear();
        t.due(t.close(), 0);
        t.dueNoPath();
    }

    static void promise5_nothingIsDoneWhenItIsAlready() {
        Tried t = lineFromOneTwo();
        t.close();
        String before = t.state();
        t.due(t.close(), 3);
        t.due(t.close(), 3);
        Checking.due("closing again", t.state(), before);
    }

    static void promise5_nothingIsDoneWhenItIsAlreadyAfterReverseAndFlatten() {
        Tried t = lineFromOneTwo();
        t.close();
        t.reverse();
        t.due(t.close(), 3);
        t.flatten(1);
        t.due(t.close(), 3);
    }

    static void promise5_oneThatOnlyBeganIsClosedToo() {
        Tried t = new Tried();
        t.move(1, 2);
        t.due(t.close(), 2);
        t.dueParts(Tried.part(0, 1, 2), Tried.part(3, 1, 2));
        t.duePoint(1, 2);
    }

    static void promise5_behindClosingThePointIsWhereTheSubpathBegins() {
        Tried t = lineFromOneTwo();
        t.close();
        t.duePoint(1, 2);
        t.move(5, 6);
        t.curve(7, 8, 9, 10, 11, 12);
        t.close();
        t.duePoint(5, 6);
        t.duePart(5, 3, 5, 6);
    }

    static void promise5_aSubpathThatWentOnBehindClosingIsClosedByItself() {
        Tried t = lineFromOneTwo();
        t.close();
        t.line(5, 6);
        t.due(t.close(), 6);
        t.duePart(5, 3, 1, 2);
        t.due(t.close(), 6);
    }

    static void promise5_theLastPartThatThereIsRoomFor() {
        Tried t = Tried.filled(2999);
        t.due(t.close(), 3000);
        t.duePart(2999, 3, 0, 0);
    }

    static void promise5_fullBehindASegment() {
        Tried t = Tried.filled(3000);
        t.refused(Tried.FULL, t::close);
    }

    static void promise5_fullBehindABeginning() {
        Tried t = Tried.filled(2999);
        t.move(1, 2);
        t.refused(Tried.FULL, t::close);
    }

    static void promise5_alreadyClosedIsNotFull() {
        Tried t = Tried.filledAndClosed(3000);
        String before = t.state();
        t.due(t.close(), 3000);
        Checking.due("closing again", t.state(), before);
    }
}
