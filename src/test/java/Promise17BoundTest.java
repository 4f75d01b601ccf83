/** Promise 17: bound. */
public final class Promise17BoundTest {
    private static final int FAR = Tried.FAR;

    public static void main(String[] args) {
        Checking.runAll(Promise17BoundTest.class, "promise17");
    }

    static void promise17_withoutAPathItIsZero() {
        Tried t = new Tried();
        t.dueBounds(0, 0, 0, 0);
        t.move(5, 6);
        t.clear();
        t.dueBounds(0, 0, 0, 0);
    }

    static void promise17_anotherWhatIsZero() {
        Tried t = new Tried();
        t.move(5, 6);
        t.line(7, 8);
        int[] others = {-1, 4, 5, Tried.LOWEST, Tried.HIGHEST};
        for (int what : others) {
            t.due(t.bound(what), 0);
        }
    }

    static void promise17_ofOnePoint() {
        Tried t = new Tried();
        t.move(5, -7);
        t.dueBounds(5, -7, 5, -7);
    }

    static void promise17_allAboveZero() {
        Tried t = new Tried();
        t.move(10, 30);
        t.line(20, 15);
        t.dueBounds(10, 15, 20, 30);
    }

    static void promise17_allBelowZero() {
        Tried t = new Tried();
        t.move(-10, -30);
        t.line(-20, -15);
        t.dueBounds(-20, -30, -10, -15);
    }

    static void promise17_theFarthestPlaces() {
        Tried t = new Tried();
        t.move(FAR, -FAR);
        t.dueBounds(FAR, -FAR, FAR, -FAR);
        t.line(-FAR, FAR);
        t.dueBounds(-FAR, -FAR, FAR, FAR);
    }

    static void promise17_controlPointsToo() {
        Tried t = new Tried();
        t.move(0, 0);
        t.curve(-100, 200, 0, 0, 0, 0);
        t.dueBounds(-100, 0, 0, 200);
        t.curve(0, 0, 300, -400, 0, 0);
        t.dueBounds(-100, -400, 300, 200);
    }

    static void promise17_theBeginningTheMiddleAndTheEndCount() {
        Tried t = new Tried();
        t.move(-9, 1);
        t.line(2, 8);
        t.line(3, -7);
        t.curve(0, 0, 0, 0, 6, 5);
        t.dueBounds(-9, -7, 6, 8);
    }

    static void promise17_allSubpathsCount() {
        Tried t = new Tried();
        t.move(1, 1);
        t.line(2, 2);
        t.close();
        t.move(-3, 50);
        t.line(70, -4);
        t.move(8, 8);
        t.dueBounds(-3, -4, 70, 50);
    }

    static void promise17_aBeginningThatWasReplacedDoesNotCount() {
        Tried t = new Tried();
        t.move(1, 1);
        t.line(2, 2);
        t.move(500, -500);
        t.dueBounds(1, -500, 500, 2);
        t.move(0, 0);
        t.dueBounds(0, 0, 2, 2);
    }

    static void promise17_controlPointsThatFlatteningTookDoNotCount() {
        Tried t = new Tried();
        t.move(5, -7);
        t.curve(-100, 0, 0, 200, 1, 1);
        t.flatten(6553600);
        t.dueBounds(1, -7, 5, 1);
    }

    static void promise17_refusedPointsDoNotCount() {
        Tried t = new Tried();
        t.move(1, 2);
        t.line(FAR + 1, 0);
        t.curve(500, 500, -500, -500, 0, FAR + 1);
        t.arc(1000, 1000, 0, 0, 2);
        t.dueBounds(1, 2, 1, 2);
    }

    static void promise17_thePointsOfArcsCount() {
        Tried t = Tried.round();
        t.arc(10, 20, 0, 90 * Tried.DEGREE, 0);
        t.dueBounds(10, 20, 65546, 65556);
    }

    static void promise17_ofAFullPath() {
        Tried t = Tried.filled(2999);
        t.curve(-50, 60, 70, -80, 0, 0);
        t.dueBounds(-50, -80, 70, 60);
        t.shift(FAR - 70, FAR - 60);
        t.dueBounds(FAR - 120, FAR - 140, FAR, FAR);
    }
}
