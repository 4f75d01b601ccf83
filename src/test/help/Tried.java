import java.util.function.IntSupplier;

/**
 * An object of CurvePaths that remembers the latest call, so that a wrong answer is told with it. It is used
 * for 512 calls at most, since the document promises nothing about later ones.
 */
final class Tried {
    // The document's own numbers, not the class's: a wrong constant must not hide a wrong answer.
    static final int BAD = -1;
    static final int NO = -2;
    static final int FULL = -3;
    static final int RANGE = -4;
    static final int FAR = 536870912;
    static final int LOWEST = Integer.MIN_VALUE;
    static final int HIGHEST = Integer.MAX_VALUE;
    static final int DEGREE = 65536;
    static final int MOST_CALLS = 512;

    private static final int PARTS_OF_A_WIDEST_ARC = 41;
    private static final int MOST_PARTS_IN_STATE = 8;

    private final CurvePaths paths = new CurvePaths();
    private String latest = "";
    private int calls;

    /** With a circle of one pixel as axes: points of arcs are those of the unit circle. */
    static Tried round() {
        Tried t = new Tried();
        t.due(t.axes(65536, 0, 0, 65536), true);
        return t;
    }

    /** Of so many parts (41 or more), one open subpath; its latest segment is a line to (11, 12). */
    static Tried filled(int parts) {
        Tried t = new Tried();
        for (int arcs = parts / PARTS_OF_A_WIDEST_ARC; arcs > 0; arcs--) {
            t.arc(0, 0, 0, 3600 * DEGREE, 0);
        }
        for (int lines = parts % PARTS_OF_A_WIDEST_ARC; lines > 0; lines--) {
            t.line(lines + 10, lines + 11);
        }
        t.due(t.parts(), parts);
        return t;
    }

    /** Of so many parts, the latest of them closing. */
    static Tried filledAndClosed(int parts) {
        Tried t = filled(parts - 1);
        t.due(t.close(), parts);
        return t;
    }

    static int[] part(int... kindAndPlaces) {
        return kindAndPlaces;
    }

    void due(int got, int want) {
        Checking.due(latest, got, want);
    }

    void due(boolean got, boolean want) {
        Checking.due(latest, got, want);
    }

    /** The kind, the point and, of a curve, the two control points. */
    void duePart(int i, int... want) {
        due(kind(i), want[0]);
        for (int what = 0; what < 6; what++) {
            due(place(i, what), what + 1 < want.length ? want[what + 1] : 0);
        }
    }

    void dueParts(int[]... want) {
        due(parts(), want.length);
        for (int i = 0; i < want.length; i++) {
            duePart(i, want[i]);
        }
    }

    void duePoint(int x, int y) {
        due(isPoint(), true);
        due(point(0), x);
        due(point(1), y);
    }

    void dueBounds(int leastX, int leastY, int greatestX, int greatestY) {
        due(bound(0), leastX);
        due(bound(1), leastY);
        due(bound(2), greatestX);
        due(bound(3), greatestY);
    }

    void dueNoPath() {
        due(parts(), 0);
        due(isPoint(), false);
        due(point(0), 0);
        due(point(1), 0);
        due(kind(0), BAD);
        due(place(0, 0), 0);
        due(place(0, 1), 0);
        dueBounds(0, 0, 0, 0);
    }

    /** The call answers this code, and all that can be asked is as it was. */
    void refused(int code, IntSupplier call) {
        String before = state();
        due(call.getAsInt(), code);
        String refusal = latest;
        Checking.due("what is left behind " + refusal, state(), before);
    }

    /** What can be asked; of a long path the first part and the latest ones. */
    String state() {
        StringBuilder said = new StringBuilder();
        int count = parts();
        said.append(count).append(" parts,");
        for (int i = 0; i < count; i++) {
            if (i == 0 || i >= count - MOST_PARTS_IN_STATE) {
                addPart(said, i);
            }
        }
        said.append(' ').append(isPoint()).append(' ').append(point(0)).append(' ').append(point(1));
        for (int what = 0; what < 4; what++) {
            said.append(' ').append(bound(what));
        }
        return said.toString();
    }

    private void addPart(StringBuilder said, int i) {
        said.append(' ').append(kind(i)).append('(');
        for (int what = 0; what < 6; what++) {
            said.append(place(i, what)).append(' ');
        }
        said.append(')');
    }

    private CurvePaths next(String call) {
        calls++;
        latest = call;
        if (calls == MOST_CALLS + 1) {
            Checking.tell("more than 512 calls of one object");
        }
        return paths;
    }

    int move(int x, int y) {
        return next("move(" + x + ", " + y + ")").move(x, y);
    }

    int line(int x, int y) {
        return next("line(" + x + ", " + y + ")").line(x, y);
    }

    int curve(int x1, int y1, int x2, int y2, int x3, int y3) {
        return next("curve(" + x1 + ", " + y1 + ", " + x2 + ", " + y2 + ", " + x3 + ", " + y3 + ")")
                .curve(x1, y1, x2, y2, x3, y3);
    }

    int close() {
        return next("close()").close();
    }

    boolean axes(int p, int q, int r, int s) {
        return next("axes(" + p + ", " + q + ", " + r + ", " + s + ")").axes(p, q, r, s);
    }

    int arc(int x, int y, int s, int e, int way) {
        return next("arc(" + x + ", " + y + ", " + s + ", " + e + ", " + way + ")").arc(x, y, s, e, way);
    }

    int shift(int dx, int dy) {
        return next("shift(" + dx + ", " + dy + ")").shift(dx, dy);
    }

    int reverse() {
        return next("reverse()").reverse();
    }

    int flatten(int bound) {
        return next("flatten(" + bound + ")").flatten(bound);
    }

    int clear() {
        return next("clear()").clear();
    }

    int parts() {
        return next("parts()").parts();
    }

    int kind(int i) {
        return next("kind(" + i + ")").kind(i);
    }

    int place(int i, int what) {
        return next("place(" + i + ", " + what + ")").place(i, what);
    }

    int point(int what) {
        return next("point(" + what + ")").point(what);
    }

    boolean isPoint() {
        return next("isPoint()").isPoint();
    }

    int bound(int what) {
        return next("bound(" + what + ")").bound(what);
    }
}
