import java.util.function.ToIntFunction;

/** "What it is" and "Terms": what they say for all promises. */
public final class TermsTest {
    private static final int FAR = Tried.FAR;
    private static final int DEGREE = Tried.DEGREE;

    public static void main(String[] args) {
        Checking.runAll(TermsTest.class, "terms");
    }

    static void terms_anObjectIsUsedFor512Calls() {
        Tried t = new Tried();
        t.due(t.move(0, 0), 1);
        for (int n = 1; n <= 508; n++) {
            t.due(t.line(n, -n), n + 1);
        }
        t.due(t.reverse(), 509);
        t.due(t.place(0, 0), 508);
        t.due(t.point(1), 0);
    }

    static void terms_anObjectIsUsedFor512DearCalls() {
        Tried t = Tried.round();
        for (int n = 0; n < 73; n++) {
            t.due(t.arc(n, n, 0, 3600 * DEGREE, 0), 41 * (n + 1));
        }
        for (int n = 0; n < 146; n++) {
            t.due(t.flatten(1), Tried.FULL);
            t.due(t.reverse(), 2993);
            t.due(t.shift(n % 2 == 0 ? 5 : -5, 0), 2993);
        }
    }

    static void terms_aPathHasAtMost3000PartsOfAnyKind() {
        Tried t = Tried.filledAndClosed(2980);
        for (int parts = 2980; parts < 3000; parts += 4) {
            t.due(t.move(parts, parts), parts + 1);
            t.due(t.line(1, 1), parts + 2);
            t.due(t.curve(1, 1, 1, 1, 1, 1), parts + 3);
            t.due(t.close(), parts + 4);
        }
        t.due(t.move(1, 1), Tried.FULL);
        t.due(t.line(1, 1), Tried.FULL);
        t.due(t.curve(1, 1, 1, 1, 1, 1), Tried.FULL);
        t.due(t.arc(0, 0, 0, 0, 0), Tried.FULL);
        t.due(t.parts(), 3000);
        t.duePart(2999, 3, 2996, 2996);
    }

    static void terms_aSubpathGoesOnBehindClosingByEverySegment() {
        Tried t = new Tried();
        t.move(5, 6);
        t.close();
        t.due(t.line(1, 1), 4);
        t.close();
        t.due(t.curve(2, 2, 3, 3, 4, 4), 7);
        t.close();
        t.due(t.arc(7, 8, 0, 0, 0), 10);
        t.dueParts(Tried.part(0, 5, 6), Tried.part(3, 5, 6), Tried.part(0, 5, 6), Tried.part(1, 1, 1),
                Tried.part(3, 5, 6), Tried.part(0, 5, 6), Tried.part(2, 4, 4, 2, 2, 3, 3), Tried.part(3, 5, 6),
                Tried.part(0, 5, 6), Tried.part(1, 7, 8));
    }

    static void terms_aBeginningBehindClosingIsWhereItWasBidden() {
        Tried t = new Tried();
        t.move(5, 6);
        t.close();
        t.due(t.move(7, 8), 3);
        t.due(t.line(9, 9), 4);
        t.dueParts(Tried.part(0, 5, 6), Tried.part(3, 5, 6), Tried.part(0, 7, 8), Tried.part(1, 9, 9));
    }

    static void terms_theNewSubpathBehindClosingHasABeginningOfItsOwn() {
        Tried t = new Tried();
        t.move(5, 6);
        t.close();
        t.line(1, 1);
        t.reverse();
        t.dueParts(Tried.part(0, 5, 6), Tried.part(3, 5, 6), Tried.part(0, 1, 1), Tried.part(1, 5, 6));
    }

    /** Each refused call, told by its number; what it answers. */
    private static int refusedCall(Tried t, int number) {
        switch (number) {
            case 0: return t.move(FAR + 1, 0) - Tried.RANGE;
            case 1: return t.line(0, -FAR - 1) - Tried.RANGE;
            case 2: return t.curve(1, 1, FAR + 1, 1, 1, 1) - Tried.RANGE;
            case 3: return t.arc(0, 0, 0, 0, 2) - Tried.BAD;
            case 4: return t.arc(FAR + 1, 0, 0, 0, 0) - Tried.RANGE;
            case 5: return t.arc(0, 0, 0, 3600 * DEGREE + 1, 0) - Tried.RANGE;
            case 6: return t.arc(0, FAR, 0, 90 * DEGREE, 0) - Tried.RANGE;
            case 7: return t.shift(FAR, FAR) - Tried.RANGE;
            case 8: return t.flatten(0) - Tried.BAD;
            case 9: return t.kind(99) - Tried.BAD;
            default: return t.axes(1, 2, 3, FAR + 1) ? 1 : 0;
        }
    }

    private static int begin(Tried t) {
        return t.move(1, 2);
    }

    private static int beginAndGoOn(Tried t) {
        t.move(1, 2);
        return t.curve(3, 4, 5, 6, 7, 8);
    }

    private static int beginAndClose(Tried t) {
        t.move(1, 2);
        t.line(3, 4);
        return t.close();
    }

    /** The path behind the refused call is built on as if that call had not been made. */
    private static void dueAsWithout(ToIntFunction<Tried> build, int number) {
        Tried with = Tried.round();
        Tried without = Tried.round();
        build.applyAsInt(with);
        build.applyAsInt(without);
        String before = with.state();
        Checking.due("refused call " + number, refusedCall(with, number), 0);
        Checking.due("what is left behind refused call " + number, with.state(), before);
        goOnWith(with);
        goOnWith(without);
        Checking.due("what is built behind refused call " + number, with.state(), without.state());
    }

    private static void goOnWith(Tried t) {
        t.line(9, 10);
        t.arc(20, 30, 10 * DEGREE, 100 * DEGREE, 0);
        t.close();
        t.reverse();
    }

    static void terms_aRefusedCallBehindABeginningChangesNothing() {
        for (int number = 0; number <= 10; number++) {
            dueAsWithout(TermsTest::begin, number);
        }
    }

    static void terms_aRefusedCallBehindASegmentChangesNothing() {
        for (int number = 0; number <= 10; number++) {
            dueAsWithout(TermsTest::beginAndGoOn, number);
        }
    }

    static void terms_aRefusedCallBehindClosingChangesNothing() {
        for (int number = 0; number <= 10; number++) {
            dueAsWithout(TermsTest::beginAndClose, number);
        }
    }

    static void terms_aFullPathIsAsItWasBehindEachRefusedCall() {
        Tried t = Tried.filled(3000);
        String before = t.state();
        t.due(t.move(1, 2), Tried.FULL);
        t.due(t.line(1, 2), Tried.FULL);
        t.due(t.curve(1, 2, 3, 4, 5, 6), Tried.FULL);
        t.due(t.close(), Tried.FULL);
        t.due(t.arc(1, 2, 0, 90 * DEGREE, 0), Tried.FULL);
        t.due(t.arc(1, 2, 0, 90 * DEGREE, 1), Tried.FULL);
        Checking.due("a full path", t.state(), before);
    }

    static void terms_noCallThrowsForAnyArguments() {
        int[] any = {Tried.LOWEST, -FAR - 1, -1, 0, 1, 5, 3000, FAR + 1, Tried.HIGHEST};
        for (int u : any) {
            for (int v : any) {
                Tried t = new Tried();
                callAll(t, u, v);
                t.move(1, 2);
                callAll(t, u, v);
                t.close();
                callAll(t, v, u);
                t.due(t.parts() >= 0, true);
            }
        }
    }

    private static void callAll(Tried t, int u, int v) {
        t.axes(u, v, v, u);
        t.arc(u, v, v, u, 0);
        t.arc(v, u, u, v, 1);
        t.arc(0, 0, u, v, v);
        t.line(u, v);
        t.curve(u, v, u, v, u, v);
        t.shift(u, v);
        t.flatten(u);
        t.reverse();
        t.kind(u);
        t.place(u, v);
        t.point(u);
        t.bound(v);
        t.move(u, v);
        t.close();
    }
}
