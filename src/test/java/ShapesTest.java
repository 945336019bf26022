/** Promises 8 to 12: bound, points, has, share, compare; and the runs behind them. */
public final class ShapesTest {
    public static void main(String[] args) {
        allPoints();
        wholeNumbers();
        sets();
        lostPoints();
        chains();
        noPoints();
        loopsWidenAndNarrow();
        loopsOfTwo();
        points();
        shares();
        comparisons();
        oneBoundAlone();
        refusals();
        Checks.end();
    }

    private static void bound(SumBounds x, int step, int one, int other, int want) {
        Checks.due("bound(" + step + ", " + one + ", " + other + ")", x.bound(step, one, other), want);
        Checks.due("bound(" + step + ", " + other + ", " + one + ")", x.bound(step, other, one), want);
    }

    private static void allPoints() {
        SumBounds x = Checks.of("f0");
        for (int one = 0; one < 6; one++) {
            for (int other = 0; other < 6; other++) {
                bound(x, 0, one, other, other == (one ^ 1) ? 100 : 116);
            }
        }
        Checks.due("points(0)", x.points(0), 4913);
    }

    /** Twice a number is even, and two halves make a bound of a sum. */
    private static void wholeNumbers() {
        SumBounds x = Checks.of("t00+3,t22-3,t44-0");
        bound(x, 1, 0, 0, 102);
        bound(x, 2, 2, 2, 96);
        bound(x, 2, 0, 2, 99);
        bound(x, 3, 4, 4, 100);
        Checks.due("points(1)", x.points(1), 10 * 289);
        Checks.due("points(2)", x.points(2), 10 * 7 * 17);
        SumBounds odd = Checks.of("t02+0,t13+0,t03-1,t12+1");
        Checks.due("X0 = -X1, X0 - X1 = -1: no whole numbers", odd.points(4), 0);
        Checks.due("bound of nothing", odd.bound(4, 0, 0), SumBounds.NONE);
        Checks.due("it is the last one that KILLS", odd.step(3, 5), 1);
    }

    private static void sets() {
        SumBounds x = Checks.of("t00+4,s13+0,s10+3,s11-1,s23+2");
        bound(x, 2, 2, 2, 116);
        bound(x, 3, 2, 2, 110);
        bound(x, 3, 2, 1, 103);
        bound(x, 3, 3, 0, 97);
        bound(x, 4, 2, 0, 99);
        bound(x, 4, 3, 1, 101);
        bound(x, 5, 4, 2, 102);
        bound(x, 5, 5, 3, 98);
        SumBounds turned = Checks.of("t00-6,s01+0,s01-2");
        bound(turned, 2, 1, 1, 94);
        bound(turned, 3, 0, 0, 90);
        SumBounds own = Checks.of("s00+9,s00-9");
        Checks.due("9 more", own.points(1), 8 * 289);
        bound(own, 1, 1, 1, 98);
        Checks.due("9 less again", own.points(2), 8 * 289);
        bound(own, 2, 0, 0, 98);
    }

    /** What a number would become decides which points are lost, of all numbers. */
    private static void lostPoints() {
        SumBounds x = Checks.of("s20+9,f2,a1-8,a1-9");
        bound(x, 1, 0, 0, 98);
        bound(x, 1, 4, 5, 100);
        Checks.due("points(1)", x.points(1), 8 * 17);
        Checks.due("points(2)", x.points(2), 8 * 289);
        bound(x, 3, 2, 2, 100);
        Checks.due("a1-9 of numbers up to 0", x.points(4), 0);
        Checks.due("it KILLS", x.step(3, 5), 1);
    }

    /** A bound that only a third number gives. */
    private static void chains() {
        SumBounds x = Checks.of("t03-3,t25-4,f1");
        bound(x, 2, 0, 5, 93);
        bound(x, 3, 0, 5, 93);
        bound(x, 3, 2, 2, 116);
        bound(x, 2, 0, 0, 102);
    }

    private static void noPoints() {
        SumBounds x = Checks.of("t01-1,f0,a1+1,s23-1,w1,t00+0");
        for (int i = 1; i <= 6; i++) {
            Checks.due("points(" + i + ")", x.points(i), 0);
            Checks.due("bound(" + i + ")", x.bound(i, 1, 0), SumBounds.NONE);
            Checks.due("has(" + i + ")", x.has(i, 0, 0, 0), 0);
            Checks.due("share(" + i + ")", x.share(i), 0);
        }
        Checks.due("ROUNDS of a loop of nothing", x.count(2), 0);
    }

    /** From 0 up, one more each time while it is no more than 5: widened, then made narrower. */
    private static void loopsWidenAndNarrow() {
        SumBounds x = Checks.of("t00+0,t11+0,t00+5,a0+1,w2");
        Checks.due("ROUNDS", x.count(2), 1);
        bound(x, 2, 0, 0, 106);
        bound(x, 2, 1, 1, 100);
        bound(x, 3, 0, 0, 104);
        bound(x, 4, 0, 0, 106);
        bound(x, 4, 1, 1, 98);
        bound(x, 5, 0, 0, 106);
        Checks.due("what was ahead of the loop's first step is told as it is at last",
                x.points(2), 4 * 289);
        SumBounds steady = Checks.of("t00+4,f1,w0");
        Checks.due("ROUNDS of a steady one", steady.count(2), 0);
        bound(steady, 0, 0, 0, 116);
        bound(steady, 3, 0, 0, 116);
    }

    /** Raw bounds stay as they are, and the second loop begins with the first one's end. */
    private static void loopsOfTwo() {
        SumBounds x = Checks.of("t00+0,a0+1,w1,t22-2,a1+1,w4");
        Checks.due("LOOPS", x.count(1), 2);
        Checks.due("ROUNDS of both", x.count(2), 2);
        bound(x, 3, 0, 0, 116);
        bound(x, 4, 2, 2, 116);
        bound(x, 6, 2, 2, 116);
    }

    private static void points() {
        String program = "t02+0,t24-3";
        int[] points = new int[3];
        for (int x0 = -8; x0 <= 8; x0++) {
            for (int x1 = -8; x1 <= 8; x1++) {
                // An object answers 512 calls: all points are more than one can be asked for.
                SumBounds x = Checks.of(program);
                for (int x2 = -8; x2 <= 8; x2++) {
                    int in1 = x0 + x1 <= 0 ? 1 : 0;
                    int in2 = in1 == 1 && x1 + x2 <= -3 ? 1 : 0;
                    String at = x0 + ", " + x1 + ", " + x2 + ")";
                    Checks.due("has(0, " + at, x.has(0, x0, x1, x2), 1);
                    Checks.due("has(1, " + at, x.has(1, x0, x1, x2), in1);
                    Checks.due("has(2, " + at, x.has(2, x0, x1, x2), in2);
                    points[0]++;
                    points[1] += in1;
                    points[2] += in2;
                }
            }
        }
        SumBounds counted = Checks.of(program);
        for (int i = 0; i < 3; i++) Checks.due("points(" + i + ")", counted.points(i), points[i]);
    }

    private static void shares() {
        for (int by = -9; by <= 9; by++) {
            for (String test : new String[] {"t00", "t24", "t35", "t14"}) {
                String sign = by < 0 ? "-" : "+";
                SumBounds x = Checks.of(test + sign + Math.abs(by) + ",t02-9,t24-9");
                for (int i = 0; i <= 3; i++) {
                    long want = Double.doubleToLongBits(x.points(i) / 4913.0);
                    Checks.due("share(" + i + ") of " + x.points(i), x.share(i), want);
                }
            }
        }
        SumBounds one = Checks.of("s10-0,s20-0,a0-8,a0-8");
        Checks.due("one POINT", one.points(4), 1);
        Checks.due("share of one POINT", one.share(4), Double.doubleToLongBits(1 / 4913.0));
    }

    private static void comparisons() {
        SumBounds x = Checks.of("t00+0,a0+4,t11-6,a0-9,t01-1");
        int[] points = {4913, 9 * 289, 9 * 289, 2 * 289, 2 * 289, 0};
        for (int i = 0; i < 6; i++) Checks.due("points(" + i + ")", x.points(i), points[i]);
        int[][] lie = {
            {0, 2, 2, 2, 2, 2}, {1, 0, 3, 4, 2, 2}, {1, 3, 0, 2, 4, 2},
            {1, 4, 1, 0, 4, 2}, {1, 1, 4, 4, 0, 2}, {1, 1, 1, 1, 1, 0}};
        for (int i = 0; i < 6; i++) {
            for (int j = 0; j < 6; j++) Checks.due("compare(" + i + ", " + j + ")", x.compare(i, j), lie[i][j]);
        }
        SumBounds empty = Checks.of("t01-1,f0");
        Checks.due("two without POINTS", empty.compare(1, 2), 0);
    }

    /** Shapes that differ in one bound alone are not alike, whichever one it is. */
    private static void oneBoundAlone() {
        for (int one = 0; one < 6; one++) {
            StringBuilder tip = new StringBuilder();
            for (int other = 0; other < 6; other++) {
                if (other / 2 != one / 2) tip.append('t').append(one).append(other).append("+3,");
            }
            cutAlone(tip + "t" + one + one + "+4", one, one, 104);
            for (int other = 0; other < 6; other++) {
                if (other / 2 != one / 2) cutAlone("f0,t" + one + other + "+9", one, other, 109);
            }
        }
    }

    private static void cutAlone(String text, int one, int other, int want) {
        SumBounds x = Checks.of(text);
        int last = x.count(0) - 1;
        for (int i = 0; i < 6; i++) {
            for (int j = 0; j < 6; j++) {
                boolean cut = i == one && j == other || i == other && j == one;
                bound(x, last + 1, i, j, cut ? want : x.bound(last, i, j));
            }
        }
        Checks.due(text + ": compare", x.compare(last, last + 1), 2);
        Checks.due(text + ": compare the other way", x.compare(last + 1, last), 1);
        Checks.due(text + ": IDLE", x.step(last, 6), 0);
    }

    private static void refusals() {
        SumBounds x = Checks.of("t00+0,a0+4");
        for (int step : new int[] {-1, 3, Integer.MIN_VALUE, Integer.MAX_VALUE}) {
            Checks.refused(x, "bound of no step", () -> x.bound(step, 6, 6), SumBounds.UNKNOWN);
            Checks.refused(x, "points of no step", () -> x.points(step), SumBounds.UNKNOWN);
            Checks.refused(x, "has of no step", () -> x.has(step, 9, 9, 9), SumBounds.UNKNOWN);
            Checks.refused(x, "share of no step", () -> x.share(step), SumBounds.UNKNOWN);
            Checks.refused(x, "compare of no step", () -> x.compare(step, 0), SumBounds.UNKNOWN);
            Checks.refused(x, "compare with no step", () -> x.compare(0, step), SumBounds.UNKNOWN);
        }
        for (int far : new int[] {-1, 6, Integer.MIN_VALUE, Integer.MAX_VALUE}) {
            Checks.refused(x, "bound of one " + far, () -> x.bound(0, far, 0), SumBounds.OUTSIDE);
            Checks.refused(x, "bound of other " + far, () -> x.bound(2, 0, far), SumBounds.OUTSIDE);
        }
        for (int far : new int[] {-9, 9, Integer.MIN_VALUE, Integer.MAX_VALUE}) {
            Checks.refused(x, "has of x0 " + far, () -> x.has(0, far, 0, 0), SumBounds.OUTSIDE);
            Checks.refused(x, "has of x1 " + far, () -> x.has(1, 0, far, 0), SumBounds.OUTSIDE);
            Checks.refused(x, "has of x2 " + far, () -> x.has(2, 0, 0, far), SumBounds.OUTSIDE);
        }
    }
}
