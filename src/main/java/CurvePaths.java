/** Paths of lines and curves in a plane, by the promises of DOC.md. */
public final class CurvePaths {
    public static final int BAD = -1;
    public static final int NO = -2;
    public static final int FULL = -3;
    public static final int RANGE = -4;

    private static final int FARTHEST = 536870912;
    private static final int MOST_PARTS = 3000;
    private static final int WIDEST_BOUND = 6553600;

    private static final int BEGINNING = 0;
    private static final int LINE = 1;
    private static final int CURVE = 2;
    private static final int CLOSING = 3;

    private static final int ONE = 65536;
    private static final long QUARTER_TURN = 90L * ONE;
    private static final long WHOLE_TURN = 360L * ONE;
    private static final long WIDEST_ARC = 3600L * ONE;
    private static final int[] QUARTER = {65536, 0, 65536, 36195, 36195, 65536, 0, 65536};

    private final Axes directions;
    private final Arc sweep;
    private final Halving halving;
    private Path path;
    private Path spare;

    public CurvePaths() {
        directions = new Axes();
        sweep = new Arc();
        halving = new Halving();
        path = new Path();
        spare = new Path();
    }

    public int move(int x, int y) {
        if (isFarPoint(x, y)) {
            return RANGE;
        }
        if (path.onlyBegan()) {
            path.replaceBeginning(x, y);
            return path.partCount;
        }
        if (!path.takes(1)) {
            return FULL;
        }
        path.addBeginning(x, y);
        return path.partCount;
    }

    public int line(int x, int y) {
        if (path.isEmpty()) {
            return NO;
        }
        if (isFarPoint(x, y)) {
            return RANGE;
        }
        if (!path.takesSegments(1)) {
            return FULL;
        }
        path.goOn();
        path.addLine(x, y);
        return path.partCount;
    }

    public int curve(int x1, int y1, int x2, int y2, int x3, int y3) {
        if (path.isEmpty()) {
            return NO;
        }
        if (isFarPoint(x1, y1) || isFarPoint(x2, y2) || isFarPoint(x3, y3)) {
            return RANGE;
        }
        if (!path.takesSegments(1)) {
            return FULL;
        }
        path.goOn();
        path.addCurve(x1, y1, x2, y2, x3, y3);
        return path.partCount;
    }

    public int close() {
        if (path.isEmpty() || path.isClosed()) {
            return path.partCount;
        }
        if (!path.takes(1)) {
            return FULL;
        }
        path.addClosing();
        return path.partCount;
    }

    public boolean axes(int p, int q, int r, int s) {
        if (isFarPoint(p, q) || isFarPoint(r, s)) {
            return false;
        }
        directions.set(p, q, r, s);
        return true;
    }

    public int arc(int x, int y, int s, int e, int way) {
        if (way != 0 && way != 1) {
            return BAD;
        }
        if (isFarPoint(x, y)) {
            return RANGE;
        }
        long end = way == 0 ? notBelow(e, s) : notAbove(e, s);
        if (Math.abs(end - s) > WIDEST_ARC) {
            return RANGE;
        }
        if (way == 0) {
            sweep.reckon(s, end);
        } else {
            sweep.reckon(end, s);
            sweep.turnRound();
        }
        if (!sweep.bringTo(x, y, directions)) {
            return RANGE;
        }
        return addSweep();
    }

    public int shift(int dx, int dy) {
        if (!staysNear(path.xs, path.pointCount, dx) || !staysNear(path.ys, path.pointCount, dy)) {
            return RANGE;
        }
        addToAll(path.xs, path.pointCount, dx);
        addToAll(path.ys, path.pointCount, dy);
        return path.partCount;
    }

    public int reverse() {
        path.turnSubpaths();
        return path.partCount;
    }

    public int flatten(int bound) {
        if (bound < 1 || bound > WIDEST_BOUND) {
            return BAD;
        }
        spare.makeEmpty();
        for (int i = 0; i < path.partCount; i++) {
            if (!addFlattened(i, bound)) {
                return FULL;
            }
        }
        Path flat = spare;
        spare = path;
        path = flat;
        return path.partCount;
    }

    public int clear() {
        int had = path.partCount;
        path.makeEmpty();
        return had;
    }

    public int parts() {
        return path.partCount;
    }

    public int kind(int i) {
        return path.hasPart(i) ? path.kinds[i] : BAD;
    }

    public int place(int i, int what) {
        if (!path.hasPart(i) || what < 0 || what > 5) {
            return 0;
        }
        if (what < 2) {
            return path.coordinate(path.pointOf(i), what);
        }
        if (path.kinds[i] != CURVE) {
            return 0;
        }
        return path.coordinate(path.firsts[i] + what / 2 - 1, what % 2);
    }

    public int point(int what) {
        if (path.isEmpty() || what < 0 || what > 1) {
            return 0;
        }
        return path.coordinate(path.latestPoint(), what);
    }

    public boolean isPoint() {
        return !path.isEmpty();
    }

    public int bound(int what) {
        if (what == 0) {
            return least(path.xs, path.pointCount);
        }
        if (what == 1) {
            return least(path.ys, path.pointCount);
        }
        if (what == 2) {
            return greatest(path.xs, path.pointCount);
        }
        return what == 3 ? greatest(path.ys, path.pointCount) : 0;
    }

    private int addSweep() {
        boolean fits = path.isEmpty()
                ? path.takes(1 + sweep.curveCount())
                : path.takesSegments(1 + sweep.curveCount());
        if (!fits) {
            return FULL;
        }
        if (path.isEmpty()) {
            path.addBeginning(sweep.xs[0], sweep.ys[0]);
        } else {
            path.goOn();
            path.addLine(sweep.xs[0], sweep.ys[0]);
        }
        sweep.addCurvesTo(path);
        return path.partCount;
    }

    private boolean addFlattened(int i, int bound) {
        int kind = path.kinds[i];
        if (kind == CURVE) {
            halving.take(path, path.firsts[i]);
            return halving.addLinesTo(spare, bound);
        }
        if (!spare.takes(1)) {
            return false;
        }
        int at = path.firsts[i];
        if (kind == BEGINNING) {
            spare.addBeginning(path.xs[at], path.ys[at]);
        } else if (kind == LINE) {
            spare.addLine(path.xs[at], path.ys[at]);
        } else {
            spare.addClosing();
        }
        return true;
    }

    private static long notBelow(long angle, long from) {
        return angle >= from ? angle : from + Math.floorMod(angle - from, WHOLE_TURN);
    }

    private static long notAbove(long angle, long from) {
        return angle <= from ? angle : from - Math.floorMod(from - angle, WHOLE_TURN);
    }

    private static boolean isFar(long v) {
        return v < -FARTHEST || v > FARTHEST;
    }

    private static boolean isFarPoint(long x, long y) {
        return isFar(x) || isFar(y);
    }

    private static boolean staysNear(int[] row, int count, int d) {
        for (int k = 0; k < count; k++) {
            if (isFar((long) row[k] + d)) {
                return false;
            }
        }
        return true;
    }

    private static void addToAll(int[] row, int count, int d) {
        for (int k = 0; k < count; k++) {
            row[k] += d;
        }
    }

    private static int least(int[] row, int count) {
        int found = count > 0 ? row[0] : 0;
        for (int k = 1; k < count; k++) {
            found = Math.min(found, row[k]);
        }
        return found;
    }

    private static int greatest(int[] row, int count) {
        int found = count > 0 ? row[0] : 0;
        for (int k = 1; k < count; k++) {
            found = Math.max(found, row[k]);
        }
        return found;
    }

    private static void turnRow(int[] row, int from, int to) {
        int low = from;
        int high = to;
        while (low < high) {
            int held = row[low];
            row[low] = row[high];
            row[high] = held;
            low++;
            high--;
        }
    }

    /** The two directions of arcs. */
    private static final class Axes {
        long p;
        long q;
        long r;
        long s;

        void set(int newP, int newQ, int newR, int newS) {
            p = newP;
            q = newQ;
            r = newR;
            s = newS;
        }

        long alongX(int a, int b) {
            return (a * p + b * r + ONE / 2) >> 16;
        }

        long alongY(int a, int b) {
            return (a * q + b * s + ONE / 2) >> 16;
        }
    }

    /**
     * Parts, and behind one another all their points. A part knows its first point; a closing has
     * none of its own and knows the one where its subpath begins. The rows hold the greatest path from
     * the first, so that no call makes any.
     */
    private static final class Path {
        // A curve has the most points of all parts.
        static final int MOST_POINTS = 3 * MOST_PARTS;

        final int[] kinds = new int[MOST_PARTS];
        final int[] firsts = new int[MOST_PARTS];
        final int[] xs = new int[MOST_POINTS];
        final int[] ys = new int[MOST_POINTS];
        int partCount;
        int pointCount;
        int begunAt;

        boolean isEmpty() {
            return partCount == 0;
        }

        boolean hasPart(int i) {
            return i >= 0 && i < partCount;
        }

        boolean onlyBegan() {
            return partCount > 0 && kinds[partCount - 1] == BEGINNING;
        }

        boolean isClosed() {
            return partCount > 0 && kinds[partCount - 1] == CLOSING;
        }

        boolean takes(int more) {
            return partCount + more <= MOST_PARTS;
        }

        // Behind closing a segment needs a beginning too.
        boolean takesSegments(int more) {
            return takes(isClosed() ? more + 1 : more);
        }

        int pointOf(int i) {
            return kinds[i] == CURVE ? firsts[i] + 2 : firsts[i];
        }

        int latestPoint() {
            return pointOf(partCount - 1);
        }

        int coordinate(int at, int axis) {
            return axis == 0 ? xs[at] : ys[at];
        }

        void makeEmpty() {
            partCount = 0;
            pointCount = 0;
            begunAt = 0;
        }

        void replaceBeginning(int x, int y) {
            xs[begunAt] = x;
            ys[begunAt] = y;
        }

        void addBeginning(int x, int y) {
            begunAt = pointCount;
            addPart(BEGINNING, pointCount);
            addPoint(x, y);
        }

        void addLine(int x, int y) {
            addPart(LINE, pointCount);
            addPoint(x, y);
        }

        void addCurve(int x1, int y1, int x2, int y2, int x3, int y3) {
            addPart(CURVE, pointCount);
            addPoint(x1, y1);
            addPoint(x2, y2);
            addPoint(x3, y3);
        }

        void addClosing() {
            addPart(CLOSING, begunAt);
        }

        void goOn() {
            if (isClosed()) {
                addBeginning(xs[begunAt], ys[begunAt]);
            }
        }

        void turnSubpaths() {
            int begin = 0;
            for (int i = 1; i <= partCount; i++) {
                if (i == partCount || kinds[i] == BEGINNING) {
                    turnSubpath(begin, i);
                    begin = i;
                }
            }
        }

        private void turnSubpath(int begin, int behind) {
            int last = kinds[behind - 1] == CLOSING ? behind - 2 : behind - 1;
            int firstPoint = firsts[begin];
            int lastPoint = pointOf(last);
            turnRow(xs, firstPoint, lastPoint);
            turnRow(ys, firstPoint, lastPoint);
            turnRow(kinds, begin + 1, last);
            int at = firstPoint + 1;
            for (int i = begin + 1; i <= last; i++) {
                firsts[i] = at;
                at += kinds[i] == CURVE ? 3 : 1;
            }
        }

        private void addPart(int kind, int first) {
            if (partCount < MOST_PARTS) {
                kinds[partCount] = kind;
                firsts[partCount] = first;
                partCount++;
            }
        }

        private void addPoint(int x, int y) {
            if (pointCount < MOST_POINTS) {
                xs[pointCount] = x;
                ys[pointCount] = y;
                pointCount++;
            }
        }
    }

    /** The points of one arc: its beginning, and three more for each curve. */
    private static final class Arc {
        // 3600 degrees that begin inside a quarter touch 41 quarters.
        static final int MOST_QUARTERS = 41;
        static final int MOST_POINTS = 1 + 3 * MOST_QUARTERS;

        final int[] xs = new int[MOST_POINTS];
        final int[] ys = new int[MOST_POINTS];
        final int[] as = new int[4];
        final int[] bs = new int[4];
        int pointCount;

        int curveCount() {
            return (pointCount - 1) / 3;
        }

        // On the unit circle, from the lesser angle to the greater one.
        void reckon(long low, long high) {
            long firstQuarter = Math.floorDiv(low, QUARTER_TURN);
            long lastQuarter = Math.floorDiv(high, QUARTER_TURN);
            int begin = placeIn(firstQuarter, low);
            int end = placeIn(lastQuarter, high);
            pointCount = 0;
            for (int n = 0; n < MOST_QUARTERS && firstQuarter + n <= lastQuarter; n++) {
                long quarter = firstQuarter + n;
                int u = n == 0 ? begin : 0;
                int v = quarter == lastQuarter ? end : ONE;
                if (u < v) {
                    takePart(quarter, u, v);
                    addTaken();
                }
            }
            if (pointCount == 0) {
                takeQuarter(firstQuarter);
                keepBehind(begin);
                addPoint(as[0], bs[0]);
            }
        }

        void turnRound() {
            turnRow(xs, 0, pointCount - 1);
            turnRow(ys, 0, pointCount - 1);
        }

        // False when a point would be too far away; the points are of no use then.
        boolean bringTo(int x, int y, Axes axes) {
            for (int k = 0; k < pointCount; k++) {
                long placeX = x + axes.alongX(xs[k], ys[k]);
                long placeY = y + axes.alongY(xs[k], ys[k]);
                if (isFarPoint(placeX, placeY)) {
                    return false;
                }
                xs[k] = (int) placeX;
                ys[k] = (int) placeY;
            }
            return true;
        }

        void addCurvesTo(Path path) {
            for (int k = 1; k + 2 < pointCount; k += 3) {
                path.addCurve(xs[k], ys[k], xs[k + 1], ys[k + 1], xs[k + 2], ys[k + 2]);
            }
        }

        // A degree has 65536 parts and a quarter 65536 places, so a place is 90 parts of a degree.
        private static int placeIn(long quarter, long angle) {
            return (int) ((angle - quarter * QUARTER_TURN + 45) / 90);
        }

        private void takePart(long quarter, int u, int v) {
            takeQuarter(quarter);
            keepBefore(v);
            if (u > 0 && v > 0) {
                keepBehind((int) ((2L * ONE * u + v) / (2L * v)));
            }
        }

        private void takeQuarter(long quarter) {
            for (int k = 0; k < 4; k++) {
                as[k] = QUARTER[2 * k];
                bs[k] = QUARTER[2 * k + 1];
            }
            int turns = (int) Math.floorMod(quarter, 4L);
            for (int n = 0; n < turns; n++) {
                turnQuarter();
            }
        }

        private void turnQuarter() {
            for (int k = 0; k < 4; k++) {
                int a = as[k];
                as[k] = -bs[k];
                bs[k] = a;
            }
        }

        private void keepBefore(int t) {
            for (int round = 1; round <= 3; round++) {
                for (int k = 3; k >= round; k--) {
                    as[k] = mix(as[k - 1], as[k], t);
                    bs[k] = mix(bs[k - 1], bs[k], t);
                }
            }
        }

        private void keepBehind(int t) {
            for (int round = 1; round <= 3; round++) {
                for (int k = 0; k <= 3 - round; k++) {
                    as[k] = mix(as[k], as[k + 1], t);
                    bs[k] = mix(bs[k], bs[k + 1], t);
                }
            }
        }

        private static int mix(int a, int b, int t) {
            return a + (int) (((long) (b - a) * t + ONE / 2) >> 16);
        }

        // A part begins where the one before it ended: only the first one brings its own beginning.
        private void addTaken() {
            for (int k = pointCount == 0 ? 0 : 1; k < 4; k++) {
                addPoint(as[k], bs[k]);
            }
        }

        private void addPoint(int a, int b) {
            if (pointCount < MOST_POINTS) {
                xs[pointCount] = a;
                ys[pointCount] = b;
                pointCount++;
            }
        }
    }

    /** One curve that is halved into lines: a stack of what is left of it, the next piece on top. */
    private static final class Halving {
        static final int MOST_HALVINGS = 10;
        static final int PIECE = 8;
        // All pieces that ten halvings can make: 1 + 2 + 4 + .. + 1024.
        static final int MOST_STEPS = 2047;

        final int[] pieces = new int[PIECE * (MOST_HALVINGS + 1)];
        final int[] halvings = new int[MOST_HALVINGS + 1];

        // The curve begins at the point before its own first one.
        void take(Path path, int firstPoint) {
            halvings[0] = 0;
            int from = Math.max(firstPoint - 1, 0);
            for (int k = 0; k < 4 && from + k < path.pointCount; k++) {
                pieces[2 * k] = path.xs[from + k];
                pieces[2 * k + 1] = path.ys[from + k];
            }
        }

        // False when the path has no room for all lines.
        boolean addLinesTo(Path path, int bound) {
            int left = 1;
            for (int step = 0; step < MOST_STEPS && left > 0; step++) {
                int top = left - 1;
                if (halvings[top] < MOST_HALVINGS && !isFlat(top, bound)) {
                    halve(top);
                    left++;
                } else if (path.takes(1)) {
                    path.addLine(pieces[PIECE * top + 6], pieces[PIECE * top + 7]);
                    left--;
                } else {
                    return false;
                }
            }
            return true;
        }

        private boolean isFlat(int piece, int bound) {
            int x = PIECE * piece;
            return isFlatAlong(x, bound) && isFlatAlong(x + 1, bound);
        }

        private boolean isFlatAlong(int at, int bound) {
            return isStraight(at, bound) && isStraight(at + 2, bound);
        }

        private boolean isStraight(int at, int bound) {
            long bend = (long) pieces[at] - 2L * pieces[at + 2] + pieces[at + 4];
            return 3 * Math.abs(bend) <= 2L * bound;
        }

        // The first half goes on top; the second one stays below it. A piece is never higher in the
        // stack than it was halved, so there is room for ten halvings.
        private void halve(int piece) {
            halveAlong(PIECE * piece);
            halveAlong(PIECE * piece + 1);
            halvings[piece]++;
            halvings[piece + 1] = halvings[piece];
        }

        private void halveAlong(int at) {
            int a = pieces[at];
            int d = pieces[at + 6];
            int e = (a + pieces[at + 2]) >> 1;
            int f = (pieces[at + 2] + pieces[at + 4]) >> 1;
            int g = (pieces[at + 4] + d) >> 1;
            int h = (e + f) >> 1;
            int i = (f + g) >> 1;
            int j = (h + i) >> 1;
            setPiece(at + PIECE, a, e, h, j);
            setPiece(at, j, i, g, d);
        }

        private void setPiece(int at, int a, int b, int c, int d) {
            pieces[at] = a;
            pieces[at + 2] = b;
            pieces[at + 4] = c;
            pieces[at + 6] = d;
        }
    }
}
