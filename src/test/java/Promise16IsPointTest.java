/** Promise 16: isPoint. */
public final class Promise16IsPointTest {
    public static void main(String[] args) {
        Checking.runAll(Promise16IsPointTest.class, "promise16");
    }

    static void promise16_noneAtFirst() {
        Tried t = new Tried();
        t.due(t.isPoint(), false);
    }

    static void promise16_thereIsOneFromABeginningOn() {
        Tried t = new Tried();
        t.move(0, 0);
        t.due(t.isPoint(), true);
        t.line(0, 0);
        t.due(t.isPoint(), true);
        t.curve(0, 0, 0, 0, 0, 0);
        t.due(t.isPoint(), true);
    }

    static void promise16_thereIsOneBehindClosing() {
        Tried t = new Tried();
        t.move(1, 2);
        t.close();
        t.due(t.isPoint(), true);
    }

    static void promise16_anArcBringsOne() {
        Tried t = new Tried();
        t.arc(0, 0, 0, 0, 0);
        t.due(t.isPoint(), true);
    }

    static void promise16_noneWhenThePathIsGone() {
        Tried t = new Tried();
        t.move(1, 2);
        t.line(3, 4);
        t.clear();
        t.due(t.isPoint(), false);
        t.move(1, 2);
        t.due(t.isPoint(), true);
    }

    static void promise16_refusedCallsBringNone() {
        Tried t = new Tried();
        t.move(Tried.FAR + 1, 0);
        t.due(t.isPoint(), false);
        t.line(0, 0);
        t.due(t.isPoint(), false);
        t.curve(0, 0, 0, 0, 0, 0);
        t.due(t.isPoint(), false);
        t.arc(0, 0, 0, 0, 2);
        t.due(t.isPoint(), false);
        t.arc(0, Tried.FAR + 1, 0, 0, 0);
        t.due(t.isPoint(), false);
    }

    static void promise16_callsThatDoNothingBringNone() {
        Tried t = new Tried();
        t.close();
        t.axes(1, 2, 3, 4);
        t.shift(1, 2);
        t.reverse();
        t.flatten(1);
        t.due(t.isPoint(), false);
    }

    static void promise16_changesOfThePathKeepIt() {
        Tried t = new Tried();
        t.move(1, 2);
        t.curve(3, 4, 5, 6, 7, 8);
        t.shift(1, 2);
        t.due(t.isPoint(), true);
        t.reverse();
        t.due(t.isPoint(), true);
        t.flatten(1);
        t.due(t.isPoint(), true);
    }
}
