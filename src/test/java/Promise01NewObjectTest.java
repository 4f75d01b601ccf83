/** Promise 1: a new object has no path; and the constants. */
public final class Promise01NewObjectTest {
    public static void main(String[] args) {
        Checking.runAll(Promise01NewObjectTest.class, "promise1");
    }

    static void promise1_thereIsNoPath() {
        new Tried().dueNoPath();
    }

    static void promise1_thereIsNoPointToGoOnFrom() {
        Tried t = new Tried();
        t.refused(Tried.NO, () -> t.line(1, 2));
        t.refused(Tried.NO, () -> t.curve(1, 2, 3, 4, 5, 6));
    }

    static void promise1_nothingToDoAnswersNoParts() {
        Tried t = new Tried();
        t.due(t.close(), 0);
        t.due(t.reverse(), 0);
        t.due(t.flatten(1), 0);
        t.due(t.shift(1, 1), 0);
        t.due(t.clear(), 0);
        t.dueNoPath();
    }

    static void promise1_theAxesAreZeroAtFirst() {
        Tried t = new Tried();
        t.due(t.arc(7, -9, 0, 90 * Tried.DEGREE, 0), 2);
        t.dueParts(Tried.part(0, 7, -9), Tried.part(2, 7, -9, 7, -9, 7, -9));
    }

    static void promise1_eachObjectHasAPathAndAxesOfItsOwn() {
        Tried one = Tried.round();
        one.move(1, 2);
        one.line(3, 4);
        Tried other = new Tried();
        other.dueNoPath();
        other.due(other.arc(5, 6, 0, 0, 0), 1);
        other.dueParts(Tried.part(0, 5, 6));
        one.dueParts(Tried.part(0, 1, 2), Tried.part(1, 3, 4));
    }

    static void promise1_theConstantsAreTheDocuments() {
        Checking.due("BAD", CurvePaths.BAD, -1);
        Checking.due("NO", CurvePaths.NO, -2);
        Checking.due("FULL", CurvePaths.FULL, -3);
        Checking.due("RANGE", CurvePaths.RANGE, -4);
    }
}
