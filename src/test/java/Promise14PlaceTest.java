/** Promise 14: place. */
public final class Promise14PlaceTest {
    public static void main(String[] args) {
        Checking.runAll(Promise14PlaceTest.class, "promise14");
    }

    private static Tried oneOfEachKind() {
        Tried t = new Tried();
        t.move(11, 12);
        t.line(13, 14);
        t.curve(15, 16, 17, 18, 19, 20);
        t.close();
        return t;
    }

    private static void dueZero(Tried t, int i, int what) {
        t.due(t.place(i, what), 0);
    }

    static void promise14_thePointOfEachKind() {
        Tried t = oneOfEachKind();
        t.due(t.place(0, 0), 11);
        t.due(t.place(0, 1), 12);
        t.due(t.place(1, 0), 13);
        t.due(t.place(1, 1), 14);
        t.due(t.place(2, 0), 19);
        t.due(t.place(2, 1), 20);
    }

    static void promise14_theControlPointsOfACurve() {
        Tried t = oneOfEachKind();
        t.due(t.place(2, 2), 15);
        t.due(t.place(2, 3), 16);
        t.due(t.place(2, 4), 17);
        t.due(t.place(2, 5), 18);
    }

    static void promise14_ofClosingWhereItsOwnSubpathBegins() {
        Tried t = oneOfEachKind();
        t.due(t.place(3, 0), 11);
        t.due(t.place(3, 1), 12);
        t.move(21, 22);
        t.line(23, 24);
        t.close();
        t.due(t.place(3, 0), 11);
        t.due(t.place(3, 1), 12);
        t.due(t.place(6, 0), 21);
        t.due(t.place(6, 1), 22);
    }

    static void promise14_onlyACurveHasControlPoints() {
        Tried t = oneOfEachKind();
        for (int what = 2; what < 6; what++) {
            dueZero(t, 0, what);
            dueZero(t, 1, what);
            dueZero(t, 3, what);
        }
    }

    static void promise14_aWhatTooSmallIsZero() {
        Tried t = oneOfEachKind();
        for (int i = 0; i < 4; i++) {
            dueZero(t, i, -1);
            dueZero(t, i, -2);
            dueZero(t, i, Tried.LOWEST);
        }
    }

    static void promise14_aWhatTooLargeIsZero() {
        Tried t = oneOfEachKind();
        t.line(25, 26);
        for (int i = 0; i < 4; i++) {
            dueZero(t, i, 6);
            dueZero(t, i, 7);
            dueZero(t, i, Tried.HIGHEST);
        }
    }

    static void promise14_aPartBelowZeroIsZero() {
        Tried t = oneOfEachKind();
        for (int what = -1; what < 7; what++) {
            dueZero(t, -1, what);
            dueZero(t, Tried.LOWEST, what);
        }
    }

    static void promise14_aPartBehindTheLastIsZero() {
        Tried t = oneOfEachKind();
        for (int what = -1; what < 7; what++) {
            dueZero(t, 4, what);
            dueZero(t, 3000, what);
            dueZero(t, Tried.HIGHEST, what);
        }
    }

    static void promise14_withoutAPathEveryPlaceIsZero() {
        Tried t = oneOfEachKind();
        t.clear();
        for (int i = -1; i < 5; i++) {
            for (int what = -1; what < 7; what++) {
                dueZero(t, i, what);
            }
        }
    }

    static void promise14_theFarthestPlacesAreTold() {
        Tried t = new Tried();
        t.move(Tried.FAR, -Tried.FAR);
        t.curve(-Tried.FAR, Tried.FAR, Tried.FAR, -Tried.FAR, -Tried.FAR, Tried.FAR);
        t.dueParts(Tried.part(0, Tried.FAR, -Tried.FAR),
                Tried.part(2, -Tried.FAR, Tried.FAR, -Tried.FAR, Tried.FAR, Tried.FAR, -Tried.FAR));
    }

    static void promise14_theLastOfAFullPath() {
        Tried t = Tried.filled(2999);
        t.curve(1, 2, 3, 4, 5, 6);
        t.duePart(2999, 2, 5, 6, 1, 2, 3, 4);
        for (int what = 0; what < 6; what++) {
            dueZero(t, 3000, what);
        }
    }

    static void promise14_askingChangesNothing() {
        Tried t = oneOfEachKind();
        t.refused(0, () -> t.place(4, 0));
        t.refused(0, () -> t.place(0, 6));
    }
}
