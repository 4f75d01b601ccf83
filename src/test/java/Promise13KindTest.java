/** Promise 13: kind. */
public final class Promise13KindTest {
    public static void main(String[] args) {
        Checking.runAll(Promise13KindTest.class, "promise13");
    }

    private static Tried oneOfEachKind() {
        Tried t = new Tried();
        t.move(1, 2);
        t.line(3, 4);
        t.curve(5, 6, 7, 8, 9, 10);
        t.close();
        return t;
    }

    static void promise13_eachKindHasItsNumber() {
        Tried t = oneOfEachKind();
        t.due(t.kind(0), 0);
        t.due(t.kind(1), 1);
        t.due(t.kind(2), 2);
        t.due(t.kind(3), 3);
    }

    static void promise13_aPartBelowZeroIsBad() {
        Tried t = oneOfEachKind();
        t.refused(Tried.BAD, () -> t.kind(-1));
        t.refused(Tried.BAD, () -> t.kind(Tried.LOWEST));
    }

    static void promise13_aPartBehindTheLastIsBad() {
        Tried t = oneOfEachKind();
        t.refused(Tried.BAD, () -> t.kind(4));
        t.due(t.kind(5), Tried.BAD);
        t.due(t.kind(3000), Tried.BAD);
        t.due(t.kind(Tried.HIGHEST), Tried.BAD);
    }

    static void promise13_withoutAPathEveryPartIsBad() {
        Tried t = new Tried();
        int[] all = {Tried.LOWEST, -1, 0, 1, 2999, 3000, Tried.HIGHEST};
        for (int i : all) {
            t.due(t.kind(i), Tried.BAD);
        }
    }

    static void promise13_partsThatAreGoneAreBad() {
        Tried t = oneOfEachKind();
        t.clear();
        for (int i = 0; i < 4; i++) {
            t.due(t.kind(i), Tried.BAD);
        }
        t.move(1, 2);
        t.due(t.kind(0), 0);
        t.due(t.kind(1), Tried.BAD);
    }

    static void promise13_theLastOfAFullPath() {
        Tried t = Tried.filledAndClosed(3000);
        t.due(t.kind(0), 0);
        t.due(t.kind(1), 2);
        t.due(t.kind(2998), 1);
        t.due(t.kind(2999), 3);
        t.due(t.kind(3000), Tried.BAD);
        t.due(t.kind(3001), Tried.BAD);
    }
}
