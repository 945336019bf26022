/** Promises 8 to 12: bound, points, has, share, compare. */
final class EdgesOfShapes {
    private static final int LEAST = Integer.MIN_VALUE, GREATEST = Integer.MAX_VALUE;
    private static final int[] NO_STEP = {-1, 6, 7, LEAST, GREATEST};

    private final Sentences sentences;

    EdgesOfShapes(Sentences sentences) {
        this.sentences = sentences;
    }

    void all() {
        bounds();
        boundRefusals();
        points();
        hasPoints();
        hasRefusals();
        shares();
        comparisons();
        compareRefusals();
    }

    private void bounds() {
        sentences.says("Promise 8", "BOUND of two SIGNED ones in the SHAPE ahead of a STEP (behind the last one,"
                + " if it is the number of STEPS): told as 100 more;");
        SumBounds x = Checks.of("t00-9,s20-0");
        Checks.due("ahead of the first one", x.bound(0, 0, 0), 116);
        Checks.due("ahead of the last one: less than 100", x.bound(1, 0, 0), 90);
        Checks.due("nothing of it holds ahead of SET", x.bound(1, 4, 1), 116);
        Checks.due("behind the last one", x.bound(2, 4, 1), 100);
        Checks.due("the other way round", x.bound(2, 1, 4), 100);
        SumBounds least = Checks.of("a0-8,a0-8,s10-0");
        Checks.due("the least one there is", least.bound(3, 0, 0), 84);
        Checks.due("of two numbers", least.bound(3, 0, 2), 84);
        Checks.due("the greatest one there is", least.bound(3, 1, 3), 116);
        sentences.says("Promise 8", "NONE: it has no POINTS.");
        SumBounds none = Checks.of("t01-1");
        for (int one = 0; one < 6; one++) {
            for (int other = 0; other < 6; other++) {
                Checks.due("bound(1, " + one + ", " + other + ")", none.bound(1, one, other), SumBounds.NONE);
            }
        }
        Checks.due("a wrong one is refused there, too", none.bound(1, 6, 0), SumBounds.OUTSIDE);
    }

    private void boundRefusals() {
        sentences.says("Promise 8", "UNKNOWN: step;");
        for (int step : NO_STEP) {
            Portrait.keeps(Portrait::busy, "bound(" + step + ", 0, 0)", x -> x.bound(step, 0, 0), SumBounds.UNKNOWN);
            Portrait.keeps(Portrait::busy, "bound(" + step + ", 6, 6)", x -> x.bound(step, 6, 6), SumBounds.UNKNOWN);
        }
        Portrait.keeps(Portrait::busyAndFull, "bound(7, 0, 0)", x -> x.bound(7, 0, 0), SumBounds.UNKNOWN);
        Portrait.keeps(SumBounds::new, "bound(0, 0, 0)", x -> x.bound(0, 0, 0), SumBounds.UNKNOWN);
        sentences.says("Promise 8", "OUTSIDE: one, other (0 to 5).");
        for (int far : new int[] {-1, 6, LEAST, GREATEST}) {
            Portrait.keeps(Portrait::busy, "bound(0, " + far + ", 0)", x -> x.bound(0, far, 0), SumBounds.OUTSIDE);
            Portrait.keeps(Portrait::busy, "bound(5, 5, " + far + ")", x -> x.bound(5, 5, far), SumBounds.OUTSIDE);
        }
        Portrait.keeps(Portrait::busy, "bound(5, 5, 5)", x -> x.bound(5, 5, 5), 116);
    }

    private void points() {
        sentences.says("Promise 9", "How many POINTS the SHAPE there has.");
        SumBounds x = Checks.of("s10-0,s20-0,a0-8,a0-8,a0-1,f0");
        int[] want = {4913, 289, 17, 9, 1, 0, 0};
        for (int step = 0; step <= 6; step++) Checks.due("points(" + step + ")", x.points(step), want[step]);
        sentences.says("Promise 9", "UNKNOWN: step.");
        for (int step : NO_STEP) {
            Portrait.keeps(Portrait::busy, "points(" + step + ")", s -> s.points(step), SumBounds.UNKNOWN);
        }
        Portrait.keeps(Portrait::busyAndFull, "points(7)", s -> s.points(7), SumBounds.UNKNOWN);
        Portrait.keeps(SumBounds::new, "points(0)", s -> s.points(0), SumBounds.UNKNOWN);
    }

    private void hasPoints() {
        sentences.says("Promise 10", "Whether a POINT is one of the SHAPE there (1, 0).");
        for (int one = 0; one < 6; one++) {
            for (int other = 0; other < 6; other++) {
                if (other != (one ^ 1)) edgeOf(one, other);
            }
        }
        SumBounds none = Checks.of("t01-1");
        Checks.due("ahead of the test", none.has(0, -8, 8, 0), 1);
        Checks.due("behind it there are none", none.has(1, -8, 8, 0), 0);
    }

    /** A test of two signed ones, and points with just the sum that is told, and with one more. */
    private static void edgeOf(int one, int other) {
        SumBounds x = Checks.of("t" + one + other + "-4");
        int[] at = {0, 0, 0};
        at[one / 2] = one % 2 == 0 ? -2 : 2;
        at[other / 2] = other % 2 == 0 ? -2 : 2;
        Checks.due("a sum of -4: " + one + other, x.has(1, at[0], at[1], at[2]), 1);
        at[one / 2] += one % 2 == 0 ? 1 : -1;
        Checks.due("a greater one: " + one + other, x.has(1, at[0], at[1], at[2]), 0);
    }

    private void hasRefusals() {
        sentences.says("Promise 10", "UNKNOWN: step;");
        for (int step : NO_STEP) {
            Portrait.keeps(Portrait::busy, "has(" + step + ")", x -> x.has(step, 0, 0, 0), SumBounds.UNKNOWN);
            Portrait.keeps(Portrait::busy, "has(" + step + ", 9)", x -> x.has(step, 9, 9, 9), SumBounds.UNKNOWN);
        }
        Portrait.keeps(Portrait::busyAndFull, "has(7)", x -> x.has(7, 0, 0, 0), SumBounds.UNKNOWN);
        Portrait.keeps(SumBounds::new, "has(0)", x -> x.has(0, 0, 0, 0), SumBounds.UNKNOWN);
        sentences.says("Promise 10", "OUTSIDE: x0, x1, x2 (-8 to 8).");
        for (int far : new int[] {-9, 9, LEAST, GREATEST}) {
            Portrait.keeps(Portrait::busy, "x0 at " + far, x -> x.has(0, far, 0, 0), SumBounds.OUTSIDE);
            Portrait.keeps(Portrait::busy, "x1 at " + far, x -> x.has(5, 0, far, 0), SumBounds.OUTSIDE);
            Portrait.keeps(Portrait::busy, "x2 at " + far, x -> x.has(0, 0, 0, far), SumBounds.OUTSIDE);
        }
        Portrait.keeps(Portrait::busy, "all at -8", x -> x.has(0, -8, -8, -8), 1);
        Portrait.keeps(Portrait::busy, "all at 8", x -> x.has(0, 8, 8, 8), 1);
    }

    private void shares() {
        sentences.says("Promise 11", "The bits of POINTS there, divided by 4913, as a fraction of double precision.");
        SumBounds x = Checks.of("s10-0,s20-0,a0-8,a0-8,a0-1,f0");
        int[] points = {4913, 289, 17, 9, 1, 0, 0};
        for (int step = 0; step <= 6; step++) {
            long want = Double.doubleToLongBits(points[step] / 4913.0);
            Checks.due("share(" + step + ")", x.share(step), want);
        }
        for (int by = -9; by <= 9; by++) {
            SumBounds many = Checks.of("t02+0,t13+0,t05+0,t44+0");
            for (int step = 0; step < 4; step++) many.by(step, by);
            for (int step = 1; step <= 4; step++) {
                long want = Double.doubleToLongBits(many.points(step) / 4913.0);
                Checks.due("share of " + many.points(step), many.share(step), want);
            }
        }
        Checks.due("all of them: the bits of 1", x.share(0), 0x3ff0000000000000L);
        Checks.due("none: the bits of 0", x.share(5), 0);
        sentences.says("Promise 11", "UNKNOWN: step.");
        for (int step : NO_STEP) {
            Portrait.keeps(Portrait::busy, "share(" + step + ")", s -> s.share(step), SumBounds.UNKNOWN);
        }
        Portrait.keeps(Portrait::busyAndFull, "share(7)", s -> s.share(7), SumBounds.UNKNOWN);
        Portrait.keeps(SumBounds::new, "share(0)", s -> s.share(0), SumBounds.UNKNOWN);
    }

    private void comparisons() {
        sentences.says("Promise 12", "How the SHAPES ahead of two STEPS lie: 0 alike, 1 the first one is within the"
                + " other one, 2 the other one is within the first one, 3 they have POINTS in common, 4 none.");
        SumBounds x = Checks.of("t00-1,s01-1,s01+0,t00-3,t01-1,f0");
        Checks.due("with itself", x.compare(1, 1), 0);
        Checks.due("up to -1, and within all", x.compare(1, 0), 1);
        Checks.due("all round it", x.compare(0, 1), 2);
        Checks.due("up to -1, and 0 to 7", x.compare(1, 2), 4);
        Checks.due("0 to 7, and -7 to 0: one in common", x.compare(2, 3), 3);
        Checks.due("up to -1, and -7 to 0", x.compare(1, 3), 3);
        Checks.due("behind a test of it", x.compare(4, 3), 1);
        Checks.due("one without POINTS is within any", x.compare(5, 4), 1);
        Checks.due("the other way round", x.compare(4, 5), 2);
        Checks.due("two without POINTS are alike, the last one behind all", x.compare(5, 6), 0);
        SumBounds beyond = Checks.of("s23-8,a2-9,f0");
        Checks.due("none are left by a MOVE: within all", beyond.compare(2, 0), 1);
        Checks.due("within some", beyond.compare(2, 1), 1);
        Checks.due("some round none", beyond.compare(1, 3), 2);
        Checks.due("none are left by a test: within some", Checks.of("a1+5,s10+2,t21+1").compare(3, 1), 1);
        Checks.due("none in two ways", Checks.of("f0,t01-1,w0,a0-9,a0-8").compare(2, 5), 0);
        for (int one = 0; one < 6; one++) {
            for (int other = 0; other < 6; other++) sidesOf(one, other);
            tipOf(one);
        }
        SumBounds odd = Checks.of("s10+0,f0,s10+1");
        Checks.due("X0 and X1 alike, or one apart", odd.compare(1, 3), 4);
        SumBounds crossing = Checks.of("s10+0,s11+0");
        Checks.due("two lines that cross at 0", crossing.compare(1, 2), 3);
        SumBounds apart = Checks.of("s10+0,s11+1");
        Checks.due("two lines that cross between whole numbers", apart.compare(1, 2), 4);
    }

    /** All with a sum of 0 at most lie within all, beside those from 1 on, and touch those from 0 on. */
    private static void sidesOf(int one, int other) {
        if (other == (one ^ 1)) return;
        String turn = ",s" + one / 2 + (one | 1);
        String more = (other % 2 == 0 ? "+" : "-") + 1;
        if (one / 2 != other / 2) turn = turn + "+0,s" + other / 2 + (other | 1);
        String test = "t" + one + other + "+0";
        SumBounds beside = Checks.of(test + turn + more);
        int last = beside.count(0);
        Checks.due(test + " is within all", beside.compare(1, 0), 1);
        Checks.due("all round " + test, beside.compare(0, 1), 2);
        Checks.due(test + " beside the others", beside.compare(1, last), 4);
        Checks.due("the others beside " + test, beside.compare(last, 1), 4);
        SumBounds touching = Checks.of(test + turn + "+0");
        Checks.due(test + " at the others", touching.compare(1, last), 3);
        Checks.due("the others at " + test, touching.compare(last, 1), 3);
        SumBounds by = Checks.of("t" + one + other + "+8,t" + one + other + "+6");
        Checks.due("8 and 6: within", by.compare(2, 1), 1);
        Checks.due("6 and 8: round it", by.compare(1, 2), 2);
    }

    /** A shape with a tip, and without it: they differ in the bound of twice that signed one alone. */
    private static void tipOf(int one) {
        StringBuilder tip = new StringBuilder();
        for (int other = 0; other < 6; other++) {
            if (other / 2 != one / 2) tip.append('t').append(one).append(other).append("+3,");
        }
        SumBounds x = Checks.of(tip + "t" + one + one + "+4");
        Checks.due("without the tip of " + one, x.compare(5, 4), 1);
        Checks.due("with the tip of " + one, x.compare(4, 5), 2);
        Checks.due("the test does something", x.step(4, 6), 0);
    }

    private void compareRefusals() {
        sentences.says("Promise 12", "UNKNOWN: one, other.");
        for (int step : NO_STEP) {
            Portrait.keeps(Portrait::busy, "compare(" + step + ", 0)", x -> x.compare(step, 0), SumBounds.UNKNOWN);
            Portrait.keeps(Portrait::busy, "compare(5, " + step + ")", x -> x.compare(5, step), SumBounds.UNKNOWN);
            Portrait.keeps(Portrait::busy, "compare of both", x -> x.compare(step, step), SumBounds.UNKNOWN);
        }
        Portrait.keeps(Portrait::busyAndFull, "compare(7, 6)", x -> x.compare(7, 6), SumBounds.UNKNOWN);
        Portrait.keeps(Portrait::busyAndFull, "compare(6, 7)", x -> x.compare(6, 7), SumBounds.UNKNOWN);
        Portrait.keeps(SumBounds::new, "compare(0, 0)", x -> x.compare(0, 0), SumBounds.UNKNOWN);
    }
}
