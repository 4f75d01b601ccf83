/** Promise 15: point. */
public final class Promise15PointTest {
    public static void main(String[] args) {
        Checking.runAll(Promise15PointTest.class, "promise15");
    }

    private static void dueXAndY(Tried t, int x, int y) {
        t.due(t.point(0), x);
        t.due(t.point(1), y);
    }

    static void promise15_withoutAPointItIsZero() {
        Tried t = new Tried();
        for (int what = -1; what < 4; what++) {
            t.due(t.point(what), 0);
        }
    }

    static void promise15_afterClearItIsZero() {
        Tried t = new Tried();
        t.move(1, 2);
        t.line(3, 4);
        t.clear();
        dueXAndY(t, 0, 0);
    }

    static void promise15_whereTheLatestOneEnded() {
        Tried t = new Tried();
        t.move(1, 2);
        dueXAndY(t, 1, 2);
        t.line(3, 4);
        dueXAndY(t, 3, 4);
        t.curve(5, 6, 7, 8, 9, 10);
        dueXAndY(t, 9, 10);
        t.move(11, 12);
        dueXAndY(t, 11, 12);
    }

    static void promise15_behindClosingWhereTheSubpathBegins() {
        Tried t = new Tried();
        t.move(1, 2);
        t.line(3, 4);
        t.close();
        dueXAndY(t, 1, 2);
        t.line(5, 6);
        dueXAndY(t, 5, 6);
        t.close();
        dueXAndY(t, 1, 2);
        t.move(7, 8);
        t.line(9, 9);
        t.close();
        dueXAndY(t, 7, 8);
    }

    static void promise15_whereAnArcEnded() {
        Tried t = Tried.round();
        t.arc(1, 2, 0, 90 * Tried.DEGREE, 0);
        dueXAndY(t, 1, 65538);
        t.arc(1, 2, 0, 0, 1);
        dueXAndY(t, 65537, 2);
    }

    static void promise15_anotherWhatIsZero() {
        Tried t = new Tried();
        t.move(1, 2);
        t.curve(3, 4, 5, 6, 7, 8);
        int[] others = {-1, 2, 3, 4, 5, Tried.LOWEST, Tried.HIGHEST};
        for (int what : others) {
            t.due(t.point(what), 0);
        }
    }

    static void promise15_theFarthestPlacesAreTold() {
        Tried t = new Tried();
        t.move(Tried.FAR, -Tried.FAR);
        dueXAndY(t, Tried.FAR, -Tried.FAR);
        t.line(-Tried.FAR, Tried.FAR);
        dueXAndY(t, -Tried.FAR, Tried.FAR);
    }

    static void promise15_ofAFullPath() {
        Tried t = Tried.filled(3000);
        dueXAndY(t, 11, 12);
        t.line(1, 2);
        dueXAndY(t, 11, 12);
    }
}
