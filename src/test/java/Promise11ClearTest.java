/** Promise 11: clear. */
public final class Promise11ClearTest {
    public static void main(String[] args) {
        Checking.runAll(Promise11ClearTest.class, "promise11");
    }

    static void promise11_thePathGoesAndItsPartsAreCounted() {
        Tried t = new Tried();
        t.move(1, 2);
        t.line(3, 4);
        t.curve(5, 6, 7, 8, 9, 10);
        t.close();
        t.due(t.clear(), 4);
        t.dueNoPath();
    }

    static void promise11_noPathHadNone() {
        Tried t = new Tried();
        t.due(t.clear(), 0);
        t.dueNoPath();
        t.move(1, 2);
        t.due(t.clear(), 1);
        t.due(t.clear(), 0);
    }

    static void promise11_aFullPathGoesAndThereIsRoomAgain() {
        Tried t = Tried.filled(3000);
        t.due(t.clear(), 3000);
        t.dueNoPath();
        t.due(t.move(5, 6), 1);
        t.dueParts(Tried.part(0, 5, 6));
    }

    static void promise11_nothingOfItComesBack() {
        Tried t = new Tried();
        t.move(1, 2);
        t.line(3, 4);
        t.close();
        t.clear();
        t.due(t.close(), 0);
        t.due(t.line(1, 1), Tried.NO);
        t.due(t.curve(1, 1, 1, 1, 1, 1), Tried.NO);
        t.due(t.reverse(), 0);
        t.due(t.flatten(1), 0);
        t.due(t.shift(1, 1), 0);
        t.dueNoPath();
    }

    static void promise11_aNewPathIsBuiltBehindIt() {
        Tried t = new Tried();
        t.move(1, 2);
        t.curve(5, 6, 7, 8, 9, 10);
        t.close();
        t.move(100, 100);
        t.clear();
        t.due(t.move(3, 4), 1);
        t.due(t.line(5, 6), 2);
        t.due(t.close(), 3);
        t.dueParts(Tried.part(0, 3, 4), Tried.part(1, 5, 6), Tried.part(3, 3, 4));
        t.dueBounds(3, 4, 5, 6);
    }

    static void promise11_whatWasFlattenedGoesToo() {
        Tried t = new Tried();
        t.move(0, 0);
        t.curve(0, 0, 2, -2, 4, -4);
        t.flatten(2);
        t.due(t.clear(), 3);
        t.due(t.flatten(2), 0);
        t.dueNoPath();
    }

    static void promise11_theAxesStay() {
        Tried t = Tried.round();
        t.move(1, 2);
        t.clear();
        t.due(t.arc(10, 20, 0, 0, 0), 1);
        t.dueParts(Tried.part(0, 65546, 20));
    }
}
