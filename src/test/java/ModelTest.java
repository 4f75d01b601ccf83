import java.math.BigInteger;
import java.util.ArrayList;
import java.util.List;

/**
 * Runs of 512 calls, compared with a slow model that follows the document's words with exact fractions.
 * The runs come from a fixed row of numbers, so they are the same each time.
 */
public final class ModelTest {
    private static final int RUNS = 1500;
    private static final int CALLS = 512;
    private static final int LIMIT = 536870912;

    private static int wrong = 0;
    private static long seed = 20261115L;

    public static void main(String[] args) {
        for (int run = 0; run < RUNS && wrong < 20; run++) {
            new Run(run).play();
        }
        System.out.println(wrong == 0 ? "all runs are as the model's" : wrong + " answers are not the model's");
        if (wrong != 0) {
            System.exit(1);
        }
    }

    private static int below(int n) {
        seed = seed * 6364136223846793005L + 1442695040888963407L;
        return (int) Long.remainderUnsigned(seed >>> 33, n);
    }

    private static int around(int middle, int width) {
        return middle - width + below(2 * width + 1);
    }

    /** One object, its model, and the calls that are made of both. */
    private static final class Run {
        final int number;
        final CurvePaths object = new CurvePaths();
        final Model model = new Model();
        final int scale;
        final boolean isBusy;

        Run(int number) {
            this.number = number;
            int[] scales = {3, 100, 65536, 6553600, LIMIT / 3, LIMIT};
            scale = scales[below(scales.length)];
            isBusy = below(3) == 0;
        }

        void play() {
            for (int n = 0; n < CALLS && wrong < 20; n++) {
                if (below(100) < (n < 300 ? 60 : 10)) {
                    change();
                } else {
                    ask();
                }
            }
        }

        void due(String call, long got, long want) {
            if (got != want) {
                wrong++;
                System.out.println("run " + number + ": " + call + " answered " + got + ", due is " + want);
            }
        }

        int anyPlace() {
            int chance = below(400);
            if (chance == 0) {
                return below(2) == 0 ? LIMIT + 1 : -LIMIT - 1;
            }
            if (chance == 1) {
                return below(2) == 0 ? Integer.MIN_VALUE : Integer.MAX_VALUE;
            }
            if (chance < 6) {
                return below(2) == 0 ? LIMIT : -LIMIT;
            }
            return Math.max(-LIMIT, Math.min(LIMIT, around(0, scale)));
        }

        int anyAngle() {
            int quarter = 90 * 65536;
            int chance = below(20);
            if (chance == 0) {
                return below(2) == 0 ? Integer.MIN_VALUE + below(50) : Integer.MAX_VALUE - below(50);
            }
            if (chance < 4) {
                return quarter * around(0, 50);
            }
            if (chance < 9) {
                return around(quarter * around(0, 8), 200);
            }
            return around(0, quarter * (isBusy ? 40 : 6));
        }

        void change() {
            int chance = below(100);
            if (chance < 10) {
                move();
            } else if (chance < 25) {
                line();
            } else if (chance < 45) {
                curve();
            } else if (chance < 55) {
                due("close()", object.close(), model.close());
            } else if (chance < 60) {
                axes();
            } else if (chance < 85) {
                arc();
            } else if (chance < 88) {
                shift();
            } else if (chance < 94) {
                due("reverse()", object.reverse(), model.reverse());
            } else if (chance < 99) {
                flatten();
            } else if (!isBusy || below(10) == 0) {
                due("clear()", object.clear(), model.clear());
            }
        }

        void move() {
            int x = anyPlace();
            int y = anyPlace();
            due("move(" + x + ", " + y + ")", object.move(x, y), model.move(x, y));
        }

        void line() {
            int x = anyPlace();
            int y = anyPlace();
            due("line(" + x + ", " + y + ")", object.line(x, y), model.line(x, y));
        }

        void curve() {
            int[] p = {anyPlace(), anyPlace(), anyPlace(), anyPlace(), anyPlace(), anyPlace()};
            due("curve(" + java.util.Arrays.toString(p) + ")",
                    object.curve(p[0], p[1], p[2], p[3], p[4], p[5]), model.curve(p));
        }

        void axes() {
            int[] d = {anyPlace(), anyPlace(), anyPlace(), anyPlace()};
            due("axes(" + java.util.Arrays.toString(d) + ")",
                    object.axes(d[0], d[1], d[2], d[3]) ? 1 : 0, model.axes(d) ? 1 : 0);
        }

        void arc() {
            int x = anyPlace();
            int y = anyPlace();
            int s = anyAngle();
            int e = below(10) == 0 ? around(s, 200) : anyAngle();
            int way = below(50) == 0 ? around(0, 3) : below(2);
            due("arc(" + x + ", " + y + ", " + s + ", " + e + ", " + way + ")",
                    object.arc(x, y, s, e, way), model.arc(x, y, s, e, way));
        }

        void shift() {
            int dx = below(4) == 0 ? anyPlace() : around(0, 1000);
            int dy = below(4) == 0 ? anyPlace() : around(0, 1000);
            due("shift(" + dx + ", " + dy + ")", object.shift(dx, dy), model.shift(dx, dy));
        }

        void flatten() {
            int bound = below(3) == 0 ? 1 + below(10) : 1 + below(Math.min(6553600, scale));
            if (below(30) == 0) {
                int[] edges = {0, -1, 6553600, 6553601, Integer.MIN_VALUE, Integer.MAX_VALUE};
                bound = edges[below(edges.length)];
            }
            due("flatten(" + bound + ")", object.flatten(bound), model.flatten(bound));
        }

        void ask() {
            int chance = below(20);
            if (chance == 0) {
                due("parts()", object.parts(), model.parts.size());
            } else if (chance == 1) {
                due("isPoint()", object.isPoint() ? 1 : 0, model.parts.isEmpty() ? 0 : 1);
            } else if (chance < 4) {
                int what = around(0, 2);
                due("point(" + what + ")", object.point(what), model.point(what));
            } else if (chance < 7) {
                int what = around(2, 3);
                due("bound(" + what + ")", object.bound(what), model.bound(what));
            } else {
                askPart();
            }
        }

        void askPart() {
            int size = model.parts.size();
            int i = below(3) == 0 ? size - 1 - below(5) : around(size / 2, size / 2 + 1);
            if (below(4) == 0) {
                due("kind(" + i + ")", object.kind(i), model.kind(i));
            } else {
                int what = below(20) == 0 ? around(0, 8) : below(6);
                due("place(" + i + ", " + what + ")", object.place(i, what), model.place(i, what));
            }
        }
    }

    /** A part is {kind, x, y} and of a curve its control points behind that; closing has kind alone. */
    private static final class Model {
        List<long[]> parts = new ArrayList<>();
        long[] axes = {0, 0, 0, 0};

        static boolean isFar(long... all) {
            for (long v : all) {
                if (v < -LIMIT || v > LIMIT) {
                    return true;
                }
            }
            return false;
        }

        static int beginningOf(List<long[]> path, int i) {
            int at = i;
            while (path.get(at)[0] != 0) {
                at--;
            }
            return at;
        }

        static long[] pointOf(List<long[]> path, int i) {
            long[] part = path.get(path.get(i)[0] == 3 ? beginningOf(path, i) : i);
            return new long[] {part[1], part[2]};
        }

        long[] latest() {
            return parts.isEmpty() ? null : pointOf(parts, parts.size() - 1);
        }

        long latestKind() {
            return parts.isEmpty() ? -1 : parts.get(parts.size() - 1)[0];
        }

        int addAll(List<long[]> more) {
            List<long[]> all = new ArrayList<>(parts);
            if (!parts.isEmpty() && latestKind() == 3 && more.get(0)[0] != 0) {
                all.add(new long[] {0, latest()[0], latest()[1]});
            }
            all.addAll(more);
            if (all.size() > 3000) {
                return -3;
            }
            parts = all;
            return parts.size();
        }

        int move(long x, long y) {
            if (isFar(x, y)) {
                return -4;
            }
            if (latestKind() == 0) {
                parts.remove(parts.size() - 1);
            }
            return addAll(List.of(new long[] {0, x, y}));
        }

        int line(long x, long y) {
            if (parts.isEmpty()) {
                return -2;
            }
            return isFar(x, y) ? -4 : addAll(List.of(new long[] {1, x, y}));
        }

        int curve(int[] p) {
            if (parts.isEmpty()) {
                return -2;
            }
            if (isFar(p[0], p[1], p[2], p[3], p[4], p[5])) {
                return -4;
            }
            return addAll(List.of(new long[] {2, p[4], p[5], p[0], p[1], p[2], p[3]}));
        }

        int close() {
            if (parts.isEmpty() || latestKind() == 3) {
                return parts.size();
            }
            if (parts.size() == 3000) {
                return -3;
            }
            parts.add(new long[] {3});
            return parts.size();
        }

        boolean axes(int[] d) {
            if (isFar(d[0], d[1], d[2], d[3])) {
                return false;
            }
            axes = new long[] {d[0], d[1], d[2], d[3]};
            return true;
        }

        int arc(long x, long y, long s, long e, int way) {
            if (way < 0 || way > 1) {
                return -1;
            }
            long end = e;
            while (way == 0 && end < s) {
                end += 360 * 65536;
            }
            while (way == 1 && end > s) {
                end -= 360 * 65536;
            }
            if (isFar(x, y) || Math.abs(end - s) > 3600L * 65536) {
                return -4;
            }
            List<long[]> curves = way == 0 ? Circle.arc(s, end) : Circle.arc(end, s);
            if (way == 1) {
                List<long[]> back = new ArrayList<>();
                for (long[] c : curves) {
                    back.add(0, c.length == 2 ? c : new long[] {c[6], c[7], c[4], c[5], c[2], c[3], c[0], c[1]});
                }
                curves = back;
            }
            List<long[]> more = new ArrayList<>();
            long[] begin = brought(x, y, curves.get(0));
            more.add(new long[] {parts.isEmpty() ? 0 : 1, begin[0], begin[1]});
            boolean far = isFar(begin);
            for (long[] c : curves) {
                long[] b = brought(x, y, c);
                far |= isFar(b);
                if (b.length == 8) {
                    more.add(new long[] {2, b[6], b[7], b[2], b[3], b[4], b[5]});
                }
            }
            return far ? -4 : addAll(more);
        }

        long[] brought(long x, long y, long[] points) {
            long[] all = new long[points.length];
            for (int k = 0; k < points.length; k += 2) {
                all[k] = x + rounded(sum(points[k], axes[0], points[k + 1], axes[2]), 65536);
                all[k + 1] = y + rounded(sum(points[k], axes[1], points[k + 1], axes[3]), 65536);
            }
            return all;
        }

        int shift(long dx, long dy) {
            List<long[]> all = new ArrayList<>();
            for (long[] part : parts) {
                long[] moved = part.clone();
                for (int k = 1; k < moved.length; k++) {
                    moved[k] += k % 2 == 1 ? dx : dy;
                    if (isFar(moved[k])) {
                        return -4;
                    }
                }
                all.add(moved);
            }
            parts = all;
            return parts.size();
        }

        int reverse() {
            List<long[]> all = new ArrayList<>();
            for (int i = 0; i < parts.size(); i++) {
                if (parts.get(i)[0] == 0) {
                    int last = i;
                    while (last + 1 < parts.size() && parts.get(last + 1)[0] != 0) {
                        last++;
                    }
                    addReversed(all, i, last);
                }
            }
            parts = all;
            return parts.size();
        }

        void addReversed(List<long[]> all, int first, int last) {
            boolean closed = parts.get(last)[0] == 3;
            int end = closed ? last - 1 : last;
            all.add(new long[] {0, parts.get(end)[1], parts.get(end)[2]});
            for (int i = end; i > first; i--) {
                long[] c = parts.get(i);
                long[] to = parts.get(i - 1);
                all.add(c[0] == 1 ? new long[] {1, to[1], to[2]}
                        : new long[] {2, to[1], to[2], c[5], c[6], c[3], c[4]});
            }
            if (closed) {
                all.add(new long[] {3});
            }
        }

        int flatten(long bound) {
            if (bound < 1 || bound > 6553600) {
                return -1;
            }
            List<long[]> all = new ArrayList<>();
            for (int i = 0; i < parts.size(); i++) {
                long[] c = parts.get(i);
                if (c[0] == 2) {
                    long[] from = parts.get(i - 1);
                    halved(all, new long[] {from[1], c[3], c[5], c[1]}, new long[] {from[2], c[4], c[6], c[2]}, bound, 0);
                } else {
                    all.add(c);
                }
                if (all.size() > 3000) {
                    return -3;
                }
            }
            parts = all;
            return parts.size();
        }

        static void halved(List<long[]> all, long[] xs, long[] ys, long bound, int depth) {
            if (depth == 10 || isFlat(xs, bound) && isFlat(ys, bound)) {
                all.add(new long[] {1, xs[3], ys[3]});
                return;
            }
            long[] midX = middles(xs);
            long[] midY = middles(ys);
            halved(all, firstHalf(xs, midX), firstHalf(ys, midY), bound, depth + 1);
            halved(all, secondHalf(xs, midX), secondHalf(ys, midY), bound, depth + 1);
        }

        static boolean isFlat(long[] v, long bound) {
            return 3 * Math.abs(v[0] - 2 * v[1] + v[2]) <= 2 * bound && 3 * Math.abs(v[1] - 2 * v[2] + v[3]) <= 2 * bound;
        }

        /** e, f, g, h, i, j of the document. */
        static long[] middles(long[] v) {
            long e = Math.floorDiv(v[0] + v[1], 2L);
            long f = Math.floorDiv(v[1] + v[2], 2L);
            long g = Math.floorDiv(v[2] + v[3], 2L);
            long h = Math.floorDiv(e + f, 2L);
            long i = Math.floorDiv(f + g, 2L);
            return new long[] {e, f, g, h, i, Math.floorDiv(h + i, 2L)};
        }

        static long[] firstHalf(long[] v, long[] mid) {
            return new long[] {v[0], mid[0], mid[3], mid[5]};
        }

        static long[] secondHalf(long[] v, long[] mid) {
            return new long[] {mid[5], mid[4], mid[2], v[3]};
        }

        int clear() {
            int had = parts.size();
            parts = new ArrayList<>();
            return had;
        }

        long kind(int i) {
            return i < 0 || i >= parts.size() ? -1 : parts.get(i)[0];
        }

        long place(int i, int what) {
            if (kind(i) < 0 || what < 0 || what > 5) {
                return 0;
            }
            if (what < 2) {
                return pointOf(parts, i)[what];
            }
            return kind(i) == 2 ? parts.get(i)[what + 1] : 0;
        }

        long point(int what) {
            return parts.isEmpty() || what < 0 || what > 1 ? 0 : latest()[what];
        }

        long bound(int what) {
            if (parts.isEmpty() || what < 0 || what > 3) {
                return 0;
            }
            long found = what < 2 ? Long.MAX_VALUE : Long.MIN_VALUE;
            for (long[] part : parts) {
                for (int k = 1 + what % 2; k < part.length; k += 2) {
                    found = what < 2 ? Math.min(found, part[k]) : Math.max(found, part[k]);
                }
            }
            return found;
        }
    }

    private static BigInteger big(long v) {
        return BigInteger.valueOf(v);
    }

    private static BigInteger sum(long a, long p, long b, long r) {
        return big(a).multiply(big(p)).add(big(b).multiply(big(r)));
    }

    /** (v / divisor + 1/2)' of the document. */
    private static long rounded(BigInteger v, long divisor) {
        BigInteger[] parts = v.shiftLeft(1).add(big(divisor)).divideAndRemainder(big(2 * divisor));
        return (parts[1].signum() < 0 ? parts[0].subtract(BigInteger.ONE) : parts[0]).longValueExact();
    }

    /** Arcs on the unit circle: curves of eight numbers, or one point of two. */
    private static final class Circle {
        static List<long[]> arc(long s, long e) {
            List<long[]> curves = new ArrayList<>();
            long degrees = 65536;
            long first = Math.floorDiv(s, 90 * degrees);
            long last = Math.floorDiv(e, 90 * degrees);
            for (long k = first; k <= last; k++) {
                long u = k == first ? placeOf(s, k) : 0;
                long v = k == last ? placeOf(e, k) : 65536;
                if (u != v) {
                    curves.add(part(quarter(k), u, v));
                }
            }
            if (curves.isEmpty()) {
                long[][] rows = split(quarter(first), placeOf(s, first));
                curves.add(new long[] {rows[1][0], rows[1][1]});
            }
            return curves;
        }

        static long placeOf(long angle, long k) {
            return rounded(big(angle - 90 * 65536 * k), 90);
        }

        static long[] quarter(long k) {
            long[] q = {65536, 0, 65536, 36195, 36195, 65536, 0, 65536};
            for (long n = 0; n < Math.floorMod(k, 4L); n++) {
                long[] next = new long[8];
                for (int j = 0; j < 8; j += 2) {
                    next[j] = -q[j + 1];
                    next[j + 1] = q[j];
                }
                q = next;
            }
            return q;
        }

        static long[] part(long[] curve, long u, long v) {
            long[] before = u == 0 && v == 65536 ? curve : split(curve, v)[0];
            return u == 0 ? before : split(before, rounded(big(u).shiftLeft(16), v))[1];
        }

        /** The two parts before and behind t: the first ones of each row, and the last ones. */
        static long[][] split(long[] curve, long t) {
            long[] before = new long[8];
            long[] behind = new long[8];
            long[] row = curve;
            for (int n = 0; n < 4; n++) {
                for (int axis = 0; axis < 2; axis++) {
                    before[2 * n + axis] = row[axis];
                    behind[6 - 2 * n + axis] = row[row.length - 2 + axis];
                }
                row = n == 3 ? row : mixed(row, t);
            }
            return new long[][] {before, behind};
        }

        static long[] mixed(long[] row, long t) {
            long[] next = new long[row.length - 2];
            for (int k = 0; k < next.length; k++) {
                next[k] = row[k] + rounded(big(row[k + 2] - row[k]).multiply(big(t)), 65536);
            }
            return next;
        }
    }
}
