/** Promise by promise: ordinary inputs, the edges that the document names, and wrong inputs. */
public final class PromiseTests {
    private static final int BAD = -1;
    private static final int NO = -2;
    private static final int FULL = -3;
    private static final int RANGE = -4;
    private static final int LIMIT = 536870912;
    private static final int DEGREE = 65536;
    private static final int LOWEST = Integer.MIN_VALUE;
    private static final int HIGHEST = Integer.MAX_VALUE;

    private static int wrong = 0;
    private static String about = "";

    public static void main(String[] args) {
        newObject();
        move();
        line();
        curve();
        close();
        axes();
        arcForward();
        arcBackward();
        arcPartsAndRounding();
        arcWithoutPart();
        arcCodes();
        shift();
        reverse();
        reverseManySubpaths();
        flatten();
        flattenDepthAndRoom();
        clear();
        partsAndKind();
        place();
        pointAndIsPoint();
        bound();
        orderOfCodes();
        System.out.println(wrong == 0 ? "all promises hold" : wrong + " answers are wrong");
        if (wrong != 0) {
            System.exit(1);
        }
    }

    private static void due(String call, long got, long want) {
        if (got != want) {
            wrong++;
            System.out.println(about + ": " + call + " answered " + got + ", due is " + want);
        }
    }

    private static void due(String call, boolean got, boolean want) {
        due(call, got ? 1 : 0, want ? 1 : 0);
    }

    /** The part's kind, its point and, of a curve, its control points. */
    private static void duePart(CurvePaths x, int i, int... want) {
        due("kind(" + i + ")", x.kind(i), want[0]);
        for (int what = 0; what < 6; what++) {
            due("place(" + i + ", " + what + ")", x.place(i, what), what + 1 < want.length ? want[what + 1] : 0);
        }
    }

    private static void dueParts(CurvePaths x, int[]... want) {
        due("parts()", x.parts(), want.length);
        for (int i = 0; i < want.length; i++) {
            duePart(x, i, want[i]);
        }
    }

    private static int[] part(int... kindAndPlaces) {
        return kindAndPlaces;
    }

    /** An open path of so many parts, all at (0, 0). */
    private static CurvePaths filled(int parts) {
        CurvePaths x = new CurvePaths();
        for (int arcs = parts / 41; arcs > 0; arcs--) {
            x.arc(0, 0, 0, 3600 * DEGREE, 0);
        }
        for (int lines = parts % 41; lines > 0; lines--) {
            x.line(0, 0);
        }
        due("parts() when filled", x.parts(), parts);
        return x;
    }

    private static void newObject() {
        about = "1 new object";
        CurvePaths x = new CurvePaths();
        due("parts()", x.parts(), 0);
        due("isPoint()", x.isPoint(), false);
        due("kind(0)", x.kind(0), BAD);
        due("place(0, 0)", x.place(0, 0), 0);
        due("point(0)", x.point(0), 0);
        for (int what = -1; what < 5; what++) {
            due("bound", x.bound(what), 0);
        }
        due("close()", x.close(), 0);
        due("reverse()", x.reverse(), 0);
        due("flatten(1)", x.flatten(1), 0);
        due("shift()", x.shift(HIGHEST, LOWEST), 0);
        due("clear()", x.clear(), 0);
        due("arc with the first axes", x.arc(7, -9, 0, 90 * DEGREE, 0), 2);
        dueParts(x, part(0, 7, -9), part(2, 7, -9, 7, -9, 7, -9));
    }

    private static void move() {
        about = "2 move";
        CurvePaths x = new CurvePaths();
        due("move", x.move(LIMIT, -LIMIT), 1);
        due("move again", x.move(3, 4), 1);
        dueParts(x, part(0, 3, 4));
        due("move beyond", x.move(LIMIT + 1, 0), RANGE);
        due("move beyond", x.move(0, LIMIT + 1), RANGE);
        due("move beyond", x.move(-LIMIT - 1, 0), RANGE);
        due("move beyond", x.move(0, -LIMIT - 1), RANGE);
        due("move beyond", x.move(LOWEST, HIGHEST), RANGE);
        dueParts(x, part(0, 3, 4));
        due("line", x.line(5, 6), 2);
        due("move behind a line", x.move(7, 8), 3);
        due("move in its place", x.move(9, 10), 3);
        due("close", x.close(), 4);
        due("move behind closing", x.move(11, 12), 5);
        dueParts(x, part(0, 3, 4), part(1, 5, 6), part(0, 9, 10), part(3, 9, 10), part(0, 11, 12));
        x = filled(2999);
        due("the last part", x.move(1, 1), 3000);
        due("in its place", x.move(2, 2), 3000);
        duePart(x, 2999, 0, 2, 2);
        x = filled(3000);
        due("one too many", x.move(1, 1), FULL);
        due("parts()", x.parts(), 3000);
        due("point(0)", x.point(0), 0);
    }

    private static void line() {
        about = "3 line";
        CurvePaths x = new CurvePaths();
        due("line without a point", x.line(1, 1), NO);
        due("parts()", x.parts(), 0);
        x.move(1, 2);
        due("line", x.line(LIMIT, -LIMIT), 2);
        due("line to the same point", x.line(LIMIT, -LIMIT), 3);
        due("line beyond", x.line(LIMIT + 1, 0), RANGE);
        due("line beyond", x.line(0, -LIMIT - 1), RANGE);
        x.close();
        due("line beyond behind closing", x.line(0, LIMIT + 1), RANGE);
        due("parts()", x.parts(), 4);
        due("line behind closing", x.line(3, 4), 6);
        dueParts(x, part(0, 1, 2), part(1, LIMIT, -LIMIT), part(1, LIMIT, -LIMIT), part(3, 1, 2),
                part(0, 1, 2), part(1, 3, 4));
        x = filled(2999);
        due("the last part", x.line(1, 1), 3000);
        due("one too many", x.line(2, 2), FULL);
        due("point(0)", x.point(0), 1);
        x = filled(2997);
        x.close();
        due("two parts of room", x.line(1, 1), 3000);
        x = filled(2998);
        x.close();
        due("a beginning and a line have no room", x.line(1, 1), FULL);
        due("parts()", x.parts(), 2999);
        due("move has", x.move(1, 1), 3000);
    }

    private static void curve() {
        about = "4 curve";
        CurvePaths x = new CurvePaths();
        due("curve without a point", x.curve(1, 1, 2, 2, 3, 3), NO);
        x.move(1, 2);
        due("curve", x.curve(3, 4, 5, 6, 7, 8), 2);
        int[] far = {LIMIT + 1, -LIMIT - 1, HIGHEST, LOWEST};
        for (int v : far) {
            due("x1 beyond", x.curve(v, 0, 0, 0, 0, 0), RANGE);
            due("y1 beyond", x.curve(0, v, 0, 0, 0, 0), RANGE);
            due("x2 beyond", x.curve(0, 0, v, 0, 0, 0), RANGE);
            due("y2 beyond", x.curve(0, 0, 0, v, 0, 0), RANGE);
            due("x3 beyond", x.curve(0, 0, 0, 0, v, 0), RANGE);
            due("y3 beyond", x.curve(0, 0, 0, 0, 0, v), RANGE);
        }
        due("at the limit", x.curve(LIMIT, -LIMIT, -LIMIT, LIMIT, LIMIT, LIMIT), 3);
        x.close();
        due("curve behind closing", x.curve(9, 8, 7, 6, 5, 4), 6);
        dueParts(x, part(0, 1, 2), part(2, 7, 8, 3, 4, 5, 6),
                part(2, LIMIT, LIMIT, LIMIT, -LIMIT, -LIMIT, LIMIT), part(3, 1, 2),
                part(0, 1, 2), part(2, 5, 4, 9, 8, 7, 6));
        x = filled(3000);
        due("one too many", x.curve(1, 1, 1, 1, 1, 1), FULL);
        x = filled(2998);
        x.close();
        due("a beginning and a curve have no room", x.curve(1, 1, 1, 1, 1, 1), FULL);
        due("parts()", x.parts(), 2999);
    }

    private static void close() {
        about = "5 close";
        CurvePaths x = new CurvePaths();
        due("nothing to close", x.close(), 0);
        x.move(1, 2);
        due("one that only began", x.close(), 2);
        due("closed already", x.close(), 2);
        x.move(3, 4);
        x.line(5, 6);
        due("close", x.close(), 5);
        due("point(0)", x.point(0), 3);
        due("point(1)", x.point(1), 4);
        dueParts(x, part(0, 1, 2), part(3, 1, 2), part(0, 3, 4), part(1, 5, 6), part(3, 3, 4));
        x = filled(2999);
        due("the last part", x.close(), 3000);
        due("closed already, with no room", x.close(), 3000);
        x = filled(3000);
        due("one too many", x.close(), FULL);
        due("kind(2999)", x.kind(2999), 1);
    }

    private static void axes() {
        about = "6 axes";
        CurvePaths x = new CurvePaths();
        due("axes", x.axes(65536, 0, 0, 65536), true);
        int[] far = {LIMIT + 1, -LIMIT - 1, HIGHEST, LOWEST};
        for (int v : far) {
            due("p beyond", x.axes(v, 1, 1, 1), false);
            due("q beyond", x.axes(1, v, 1, 1), false);
            due("r beyond", x.axes(1, 1, v, 1), false);
            due("s beyond", x.axes(1, 1, 1, v), false);
        }
        x.arc(10, 20, 0, 90 * DEGREE, 0);
        dueParts(x, part(0, 65546, 20), part(2, 10, 65556, 65546, 36215, 36205, 65556));
        due("at the limit", x.axes(LIMIT, -LIMIT, -LIMIT, LIMIT), true);
        due("clear", x.clear(), 2);
        due("the axes stay", x.arc(0, 0, 0, 0, 0), 1);
        duePart(x, 0, 0, LIMIT, -LIMIT);
        x.clear();
        x.arc(0, 0, 90 * DEGREE, 90 * DEGREE, 0);
        duePart(x, 0, 0, -LIMIT, LIMIT);
    }

    private static CurvePaths round() {
        CurvePaths x = new CurvePaths();
        x.axes(65536, 0, 0, 65536);
        return x;
    }

    private static void arcForward() {
        about = "7 arc forward";
        CurvePaths x = round();
        due("two quarters", x.arc(0, 0, 0, 180 * DEGREE, 0), 3);
        int[] first = part(2, 0, 65536, 65536, 36195, 36195, 65536);
        int[] second = part(2, -65536, 0, -36195, 65536, -65536, 36195);
        dueParts(x, part(0, 65536, 0), first, second);
        due("a line to the next one", x.arc(0, 0, 270 * DEGREE, 360 * DEGREE, 0), 5);
        int[] fourth = part(2, 65536, 0, 36195, -65536, 65536, -36195);
        dueParts(x, part(0, 65536, 0), first, second, part(1, 0, -65536), fourth);
        x.close();
        due("behind closing", x.arc(0, 0, 0, 90 * DEGREE, 0), 9);
        duePart(x, 6, 0, 65536, 0);
        duePart(x, 7, 1, 65536, 0);
        duePart(x, 8, first);
        x = round();
        due("e is made greater", x.arc(0, 0, 0, -270 * DEGREE, 0), 2);
        dueParts(x, part(0, 65536, 0), first);
        x = round();
        due("by many turns", x.arc(0, 0, 0, (90 - 3600) * DEGREE, 0), 2);
        dueParts(x, part(0, 65536, 0), first);
        x = round();
        due("e is not made less", x.arc(0, 0, 0, (90 + 720) * DEGREE, 0), 10);
        x = round();
        due("a whole turn below", x.arc(0, 0, 90 * DEGREE, -270 * DEGREE, 0), 1);
        dueParts(x, part(0, 0, 65536));
        x = round();
        due("negative quarters", x.arc(0, 0, -90 * DEGREE, 0, 0), 2);
        dueParts(x, part(0, 0, -65536), fourth);
    }

    private static void arcBackward() {
        about = "7 arc backward";
        CurvePaths x = round();
        due("two quarters", x.arc(0, 0, 180 * DEGREE, 0, 1), 3);
        int[] second = part(2, 0, 65536, -65536, 36195, -36195, 65536);
        int[] first = part(2, 65536, 0, 36195, 65536, 65536, 36195);
        dueParts(x, part(0, -65536, 0), second, first);
        x = round();
        due("e is made less", x.arc(0, 0, 90 * DEGREE, 360 * DEGREE, 1), 2);
        dueParts(x, part(0, 0, 65536), first);
        x = round();
        due("by many turns", x.arc(0, 0, 90 * DEGREE, 7200 * DEGREE, 1), 2);
        dueParts(x, part(0, 0, 65536), first);
        x = round();
        due("e is not made greater", x.arc(0, 0, 90 * DEGREE, -720 * DEGREE, 1), 10);
        x = round();
        due("a whole turn above", x.arc(0, 0, 0, 360 * DEGREE, 1), 1);
        dueParts(x, part(0, 65536, 0));
        x = round();
        x.move(1, 1);
        due("a line goes to its beginning", x.arc(0, 0, 90 * DEGREE, 0, 1), 3);
        dueParts(x, part(0, 1, 1), part(1, 0, 65536), first);
    }

    private static void arcPartsAndRounding() {
        about = "7 arc, parts of quarters";
        CurvePaths x = round();
        // Before 1/2 of quarter 0: neighbours mixed three times, each half rounded up.
        due("0 to 45 degrees", x.arc(0, 0, 0, 45 * DEGREE, 0), 2);
        dueParts(x, part(0, 65536, 0), part(2, 46342, 46342, 65536, 18098, 58201, 34482));
        x = round();
        due("45 to 90 degrees", x.arc(0, 0, 45 * DEGREE, 90 * DEGREE, 0), 2);
        duePart(x, 0, 0, 46342, 46342);
        x = round();
        // Place 1 is at 90 parts of a degree; from 45 on an angle is rounded up to it.
        due("from place 0 to 1", x.arc(0, 0, 44, 45, 0), 2);
        due("none within place 0", x.arc(0, 0, 0, 44, 0), 3);
        due("none within place 1", x.arc(0, 0, 45, 134, 0), 4);
        due("one to place 2", x.arc(0, 0, 45, 135, 0), 6);
        x = new CurvePaths();
        // 36195 / 2 lies between two units, and so does its opposite: both are rounded up.
        x.axes(32768, -32768, 0, 0);
        x.arc(0, 0, 0, 90 * DEGREE, 0);
        dueParts(x, part(0, 32768, -32768), part(2, 0, 0, 32768, -32768, 18098, -18097));
        x = round();
        due("41 quarters are touched", x.arc(0, 0, 45 * DEGREE, 3645 * DEGREE, 0), 42);
        due("and back", x.arc(0, 0, 45 * DEGREE, -3555 * DEGREE, 1), 84);
        duePart(x, 0, 0, 46342, 46342);
        duePart(x, 42, 1, 46342, 46342);
    }

    private static void arcWithoutPart() {
        about = "7 arc without a part";
        int edge = 90 * DEGREE;
        for (int way = 0; way < 2; way++) {
            CurvePaths x = round();
            due("the end of a quarter", x.arc(0, 0, way == 0 ? edge - 1 : edge + 1, way == 0 ? edge + 1 : edge - 1, way), 1);
            dueParts(x, part(0, 0, 65536));
            due("a line to it", x.arc(5, 6, edge, edge, way), 2);
            duePart(x, 1, 1, 5, 65542);
            x.close();
            due("behind closing", x.arc(0, 0, 0, 0, way), 5);
            duePart(x, 3, 0, 0, 65536);
            duePart(x, 4, 1, 65536, 0);
        }
    }

    private static void arcCodes() {
        about = "7 arc, codes";
        CurvePaths x = round();
        int[] ways = {-1, 2, LOWEST, HIGHEST};
        for (int way : ways) {
            due("another way", x.arc(0, 0, 0, 1, way), BAD);
        }
        due("middle beyond", x.arc(LIMIT + 1, 0, 180 * DEGREE, 180 * DEGREE, 0), RANGE);
        due("middle beyond", x.arc(0, -LIMIT - 1, 90 * DEGREE, 90 * DEGREE, 1), RANGE);
        due("beginning beyond", x.arc(LIMIT, 0, 0, 0, 0), RANGE);
        due("all points near", x.arc(LIMIT - 65536, 0, 0, 360 * DEGREE, 0), 5);
        due("a point beyond", x.arc(LIMIT - 65535, 0, -90 * DEGREE, 0, 0), RANGE);
        due("a point beyond", x.arc(0, 65535 - LIMIT, 0, 270 * DEGREE, 0), RANGE);
        due("only points of other parts beyond", x.arc(LIMIT - 60000, 0, 45 * DEGREE, 90 * DEGREE, 0), 7);
        due("3600 degrees", x.arc(0, 0, 100, 100 + 3600 * DEGREE, 0), 49);
        due("more than that", x.arc(0, 0, 100, 101 + 3600 * DEGREE, 0), RANGE);
        due("3600 degrees back", x.arc(0, 0, 100, 100 - 3600 * DEGREE, 1), 91);
        due("more than that", x.arc(0, 0, 100, 99 - 3600 * DEGREE, 1), RANGE);
        due("the widest", x.arc(0, 0, LOWEST, HIGHEST, 0), RANGE);
        due("the widest back", x.arc(0, 0, HIGHEST, LOWEST, 1), RANGE);
        due("parts()", x.parts(), 91);
        due("far angles", x.arc(0, 0, HIGHEST, LOWEST, 0) > 91, true);
        due("far angles", x.arc(0, 0, LOWEST, HIGHEST, 1) > 92, true);

        x = filled(2998);
        due("two parts of room", x.arc(0, 0, 0, 90 * DEGREE, 0), 3000);
        x = filled(2999);
        due("one part of room", x.arc(0, 0, 0, 90 * DEGREE, 0), FULL);
        due("parts()", x.parts(), 2999);
        due("for a line it is enough", x.arc(0, 0, 0, 0, 1), 3000);
        x = filled(2997);
        x.close();
        due("a beginning too has no room", x.arc(0, 0, 0, 90 * DEGREE, 1), FULL);
        due("a beginning and a line have", x.arc(0, 0, 0, 0, 0), 3000);

        x = new CurvePaths();
        x.axes(LIMIT, LIMIT, LIMIT, LIMIT);
        due("control points are points", x.arc(0, 0, 0, 90 * DEGREE, 0), RANGE);
        due("their ends are near", x.arc(0, 0, 90 * DEGREE, 90 * DEGREE, 0), 1);
    }

    private static void shift() {
        about = "8 shift";
        CurvePaths x = new CurvePaths();
        x.move(1, 2);
        x.curve(3, 4, 5, 6, 7, 8);
        x.close();
        x.move(-9, -10);
        due("shift", x.shift(100, -1000), 4);
        dueParts(x, part(0, 101, -998), part(2, 107, -992, 103, -996, 105, -994), part(3, 101, -998),
                part(0, 91, -1010));
        due("point(0)", x.point(0), 91);
        due("x at the limit", x.shift(LIMIT - 107, 0), 4);
        due("x beyond", x.shift(1, 0), RANGE);
        due("y at the limit", x.shift(0, 1010 - LIMIT), 4);
        due("y beyond", x.shift(0, -1), RANGE);
        due("x beyond", x.shift(LOWEST, 0), RANGE);
        due("y beyond", x.shift(-5, HIGHEST), RANGE);
        duePart(x, 3, 0, LIMIT - 16, -LIMIT);
        due("point(1)", x.point(1), -LIMIT);
        x.clear();
        x.move(LIMIT, -LIMIT);
        due("across the plane", x.shift(-2 * LIMIT, 0), 1);
        due("point(0)", x.point(0), -LIMIT);
        due("no sum wraps", x.shift(0, LOWEST), RANGE);
        x.clear();
        x.move(0, 0);
        x.curve(LIMIT, 0, 0, 0, 0, 0);
        due("a control point beyond", x.shift(1, 0), RANGE);
        x.clear();
        due("no path", x.shift(HIGHEST, HIGHEST), 0);
    }

    private static void reverse() {
        about = "9 reverse";
        CurvePaths x = new CurvePaths();
        x.move(1, 2);
        x.line(3, 4);
        x.curve(5, 6, 7, 8, 9, 10);
        due("open", x.reverse(), 3);
        dueParts(x, part(0, 9, 10), part(2, 3, 4, 7, 8, 5, 6), part(1, 1, 2));
        due("point(0)", x.point(0), 1);
        x.close();
        due("closed", x.reverse(), 4);
        dueParts(x, part(0, 1, 2), part(1, 3, 4), part(2, 9, 10, 5, 6, 7, 8), part(3, 1, 2));
        due("point(0)", x.point(0), 1);
        x.line(0, 0);
        duePart(x, 4, 0, 1, 2);
        duePart(x, 5, 1, 0, 0);
        x = new CurvePaths();
        x.move(1, 2);
        due("one that only began", x.reverse(), 1);
        dueParts(x, part(0, 1, 2));
        due("move in its place", x.move(3, 4), 1);
        x.close();
        due("one that began and closed", x.reverse(), 2);
        dueParts(x, part(0, 3, 4), part(3, 3, 4));
    }

    private static void reverseManySubpaths() {
        about = "9 reverse, many subpaths";
        CurvePaths x = new CurvePaths();
        x.move(1, 1);
        x.line(2, 2);
        x.close();
        x.line(3, 3);
        x.move(4, 4);
        x.curve(5, 5, 6, 6, 7, 7);
        x.close();
        x.move(8, 8);
        due("reverse", x.reverse(), 9);
        dueParts(x, part(0, 2, 2), part(1, 1, 1), part(3, 2, 2), part(0, 3, 3), part(1, 1, 1),
                part(0, 7, 7), part(2, 4, 4, 6, 6, 5, 5), part(3, 7, 7), part(0, 8, 8));
        x.reverse();
        dueParts(x, part(0, 1, 1), part(1, 2, 2), part(3, 1, 1), part(0, 1, 1), part(1, 3, 3),
                part(0, 4, 4), part(2, 7, 7, 5, 5, 6, 6), part(3, 4, 4), part(0, 8, 8));
    }

    private static void flatten() {
        about = "10 flatten";
        CurvePaths x = new CurvePaths();
        x.move(0, 0);
        x.curve(0, 0, 2, -2, 4, -4);
        int[] wrongBounds = {0, -1, 6553601, LOWEST, HIGHEST};
        for (int bound : wrongBounds) {
            due("bound", x.flatten(bound), BAD);
        }
        due("not flat by 2", x.flatten(2), 3);
        dueParts(x, part(0, 0, 0), part(1, 1, -2), part(1, 4, -4));
        due("lines stay", x.flatten(1), 3);
        x.clear();
        x.move(0, 0);
        x.curve(0, 0, 2, -2, 4, -4);
        due("flat by 3", x.flatten(3), 2);
        dueParts(x, part(0, 0, 0), part(1, 4, -4));
        x.clear();
        x.move(0, 0);
        x.curve(0, 0, 0, 0, 0, 4);
        due("the last three bend in y", x.flatten(5), 3);
        x.clear();
        x.move(0, 0);
        x.curve(-1, 0, -2, 0, 0, 0);
        due("a bend below", x.flatten(2), 3);
        x.clear();
        x.move(10, 10);
        x.line(20, 20);
        x.curve(20, 20, 20, 20, 20, 20);
        x.close();
        x.curve(11, 11, 12, 12, 13, 13);
        x.close();
        due("many subpaths", x.flatten(6553600), 7);
        dueParts(x, part(0, 10, 10), part(1, 20, 20), part(1, 20, 20), part(3, 10, 10),
                part(0, 10, 10), part(1, 13, 13), part(3, 10, 10));
        due("point(0)", x.point(0), 10);
        due("a line behind it", x.line(1, 1), 9);
        duePart(x, 7, 0, 10, 10);
        due("reverse behind it", x.reverse(), 9);
        duePart(x, 4, 0, 13, 13);
    }

    private static void flattenDepthAndRoom() {
        about = "10 flatten, depth and room";
        CurvePaths x = new CurvePaths();
        x.move(-LIMIT, LIMIT);
        x.curve(LIMIT, -LIMIT, -LIMIT, LIMIT, LIMIT, -LIMIT);
        due("ten halvings", x.flatten(1), 1025);
        duePart(x, 512, 1, 0, 0);
        duePart(x, 1024, 1, LIMIT, -LIMIT);
        x.curve(-LIMIT, LIMIT, LIMIT, -LIMIT, -LIMIT, LIMIT);
        due("2049 parts", x.flatten(1), 2049);
        x.curve(LIMIT, -LIMIT, -LIMIT, LIMIT, LIMIT, -LIMIT);
        due("no room", x.flatten(1), FULL);
        due("parts()", x.parts(), 2050);
        duePart(x, 2049, 2, LIMIT, -LIMIT, LIMIT, -LIMIT, -LIMIT, LIMIT);
        due("BAD before FULL", x.flatten(0), BAD);

        x = filled(1975);
        x.flatten(1);
        due("lines only", x.parts(), 1975);
        x.curve(LIMIT, LIMIT, -LIMIT, -LIMIT, 0, 0);
        x.close();
        due("just enough room", x.flatten(1), 3000);
        due("kind(2999)", x.kind(2999), 3);
        x = filled(1976);
        x.flatten(1);
        x.curve(LIMIT, LIMIT, -LIMIT, -LIMIT, 0, 0);
        x.close();
        due("no room for closing", x.flatten(1), FULL);
        due("parts()", x.parts(), 1978);
        due("kind(1976)", x.kind(1976), 2);
    }

    private static void clear() {
        about = "11 clear";
        CurvePaths x = new CurvePaths();
        x.move(1, 2);
        x.line(3, 4);
        x.close();
        due("clear", x.clear(), 3);
        due("parts()", x.parts(), 0);
        due("isPoint()", x.isPoint(), false);
        due("kind(0)", x.kind(0), BAD);
        due("place(0, 0)", x.place(0, 0), 0);
        due("bound(2)", x.bound(2), 0);
        due("line", x.line(1, 1), NO);
        due("close", x.close(), 0);
        due("again", x.clear(), 0);
        due("move", x.move(5, 6), 1);
        dueParts(x, part(0, 5, 6));
        x = filled(3000);
        due("clear a full one", x.clear(), 3000);
        due("move", x.move(5, 6), 1);
    }

    private static void partsAndKind() {
        about = "12 parts, 13 kind";
        CurvePaths x = new CurvePaths();
        x.move(1, 2);
        x.line(3, 4);
        x.curve(1, 1, 1, 1, 1, 1);
        x.close();
        due("parts()", x.parts(), 4);
        for (int i = 0; i < 4; i++) {
            due("kind", x.kind(i), i);
        }
        int[] none = {-1, 4, 16, 3000, LOWEST, HIGHEST};
        for (int i : none) {
            due("kind(" + i + ")", x.kind(i), BAD);
        }
        x = filled(3000);
        due("parts()", x.parts(), 3000);
        due("kind(2999)", x.kind(2999), 1);
        due("kind(3000)", x.kind(3000), BAD);
    }

    private static void place() {
        about = "14 place";
        CurvePaths x = new CurvePaths();
        x.move(11, 12);
        x.line(13, 14);
        x.curve(15, 16, 17, 18, 19, 20);
        x.close();
        dueParts(x, part(0, 11, 12), part(1, 13, 14), part(2, 19, 20, 15, 16, 17, 18), part(3, 11, 12));
        int[] none = {-1, 6, LOWEST, HIGHEST};
        for (int what : none) {
            due("what " + what, x.place(2, what), 0);
            due("what " + what, x.place(0, what), 0);
        }
        int[] noPart = {-1, 4, 16, 3000, LOWEST, HIGHEST};
        for (int i : noPart) {
            for (int what = -1; what < 7; what++) {
                due("part " + i, x.place(i, what), 0);
            }
        }
    }

    private static void pointAndIsPoint() {
        about = "15 point, 16 isPoint";
        CurvePaths x = new CurvePaths();
        due("isPoint", x.isPoint(), false);
        x.move(1, 2);
        due("isPoint", x.isPoint(), true);
        due("point(0)", x.point(0), 1);
        due("point(1)", x.point(1), 2);
        x.line(3, 4);
        due("point(0)", x.point(0), 3);
        due("point(1)", x.point(1), 4);
        x.curve(5, 6, 7, 8, 9, 10);
        due("point(0)", x.point(0), 9);
        due("point(1)", x.point(1), 10);
        x.close();
        due("point(0)", x.point(0), 1);
        due("point(1)", x.point(1), 2);
        due("isPoint", x.isPoint(), true);
        int[] none = {-1, 2, 3, LOWEST, HIGHEST};
        for (int what : none) {
            due("point(" + what + ")", x.point(what), 0);
        }
        x.move(21, 22);
        due("point(0)", x.point(0), 21);
    }

    private static void bound() {
        about = "17 bound";
        CurvePaths x = new CurvePaths();
        x.move(5, -7);
        dueBound(x, 5, -7, 5, -7);
        x.line(4, -6);
        dueBound(x, 4, -7, 5, -6);
        x.curve(-100, 0, 0, 200, 1, 1);
        dueBound(x, -100, -7, 5, 200);
        x.curve(0, -300, 400, 0, 1, 1);
        dueBound(x, -100, -300, 400, 200);
        x.close();
        x.move(500, 500);
        dueBound(x, -100, -300, 500, 500);
        x.move(0, 0);
        dueBound(x, -100, -300, 400, 200);
        x.flatten(6553600);
        dueBound(x, 0, -7, 5, 1);
        int[] none = {-1, 4, LOWEST, HIGHEST};
        for (int what : none) {
            due("bound(" + what + ")", x.bound(what), 0);
        }
    }

    private static void dueBound(CurvePaths x, int... want) {
        for (int what = 0; what < 4; what++) {
            due("bound(" + what + ")", x.bound(what), want[what]);
        }
    }

    private static void orderOfCodes() {
        about = "the order of the codes";
        CurvePaths x = new CurvePaths();
        due("NO before RANGE", x.line(LIMIT + 1, 0), NO);
        due("NO before RANGE", x.curve(LIMIT + 1, 0, 0, 0, 0, 0), NO);
        due("BAD before RANGE", x.arc(LIMIT + 1, 0, LOWEST, HIGHEST, 2), BAD);
        x = filled(3000);
        due("RANGE before FULL", x.move(LIMIT + 1, 0), RANGE);
        due("RANGE before FULL", x.line(0, LIMIT + 1), RANGE);
        due("RANGE before FULL", x.curve(0, 0, 0, LIMIT + 1, 0, 0), RANGE);
        due("RANGE before FULL", x.arc(0, LIMIT + 1, 0, 0, 0), RANGE);
        due("RANGE before FULL", x.arc(0, 0, 0, 3601 * DEGREE, 0), RANGE);
        due("BAD before FULL", x.arc(0, 0, 0, 0, 2), BAD);
        x.axes(LIMIT, 0, 0, LIMIT);
        due("RANGE before FULL", x.arc(1, 0, 0, 0, 0), RANGE);
        due("FULL", x.arc(0, 0, 0, 0, 0), FULL);
        due("parts()", x.parts(), 3000);
        due("point(0)", x.point(0), 0);
    }
}
