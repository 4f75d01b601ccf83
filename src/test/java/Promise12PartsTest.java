/** Promise 12: parts. */
public final class Promise12PartsTest {
    public static void main(String[] args) {
        Checking.runAll(Promise12PartsTest.class, "promise12");
    }

    static void promise12_noPathHasNone() {
        Tried t = new Tried();
        t.due(t.parts(), 0);
    }

    static void promise12_beginningsSegmentsAndClosingsAreCounted() {
        Tried t = new Tried();
        t.move(1, 2);
        t.due(t.parts(), 1);
        t.line(3, 4);
        t.due(t.parts(), 2);
        t.curve(1, 1, 1, 1, 1, 1);
        t.due(t.parts(), 3);
        t.close();
        t.due(t.parts(), 4);
    }

    static void promise12_theBeginningBehindClosingIsCountedToo() {
        Tried t = new Tried();
        t.move(1, 2);
        t.close();
        t.line(3, 4);
        t.due(t.parts(), 4);
    }

    static void promise12_whatIsDoneInPlaceIsNotCounted() {
        Tried t = new Tried();
        t.move(1, 2);
        t.move(3, 4);
        t.due(t.parts(), 1);
        t.close();
        t.close();
        t.due(t.parts(), 2);
    }

    static void promise12_refusedCallsAreNotCounted() {
        Tried t = new Tried();
        t.line(1, 1);
        t.curve(1, 1, 1, 1, 1, 1);
        t.move(Tried.FAR + 1, 0);
        t.arc(0, 0, 0, 0, 2);
        t.due(t.parts(), 0);
    }

    static void promise12_threeThousandAreTheMost() {
        Tried t = Tried.filled(2999);
        t.due(t.parts(), 2999);
        t.line(1, 1);
        t.due(t.parts(), 3000);
        t.line(1, 1);
        t.move(1, 1);
        t.close();
        t.due(t.parts(), 3000);
    }

    static void promise12_eachCallThatCountsAgreesWithIt() {
        Tried t = Tried.round();
        t.due(t.arc(0, 0, 10, 20 * Tried.DEGREE, 0), t.parts());
        t.due(t.line(1, 1), 3);
        t.due(t.shift(1, 1), 3);
        t.due(t.reverse(), 3);
        t.due(t.flatten(6553600), 3);
        t.due(t.parts(), 3);
        t.due(t.clear(), 3);
        t.due(t.parts(), 0);
    }
}
