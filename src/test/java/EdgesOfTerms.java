import java.util.Arrays;

/** The document's 'Terms', part 1: numbers, signed ones, bounds, the text of a program. */
final class EdgesOfTerms {
    private static final String DIGITS = "0123456789", SIGNED = "012345", NUMBERS = "012", SIGNS = "+-";

    private final Sentences sentences;

    EdgesOfTerms(Sentences sentences) {
        this.sentences = sentences;
    }

    void all() {
        numbers();
        calls();
        signedOnes();
        pointsAndShapes();
        bounds();
        pointsBy();
        oneToSixSteps();
        tests();
        sets();
        losses();
        moves();
        loops();
        kinds();
        noneAtFirst();
        lostPoints();
    }

    private void says(String quote) {
        sentences.says("Terms", quote);
    }

    /** Whichever letter comes behind these, it is right if it is one of them, else it is the fault. */
    static void next(String begun, String right) {
        for (int code = 1; code <= 126; code++) {
            SumBounds x = new SumBounds();
            Checks.write(x, begun);
            x.letter(code);
            int fault = right.indexOf(code) < 0 ? begun.length() : begun.length() + 1;
            Checks.due("fault() of " + begun + " and the letter " + code, x.fault(), fault);
        }
    }

    private void numbers() {
        sentences.says("What it is", "NUMBERS are X0, X1, X2, each -8 to 8.");
        SumBounds x = Checks.of("f0");
        for (int corner = 0; corner < 8; corner++) {
            int x0 = (corner & 1) == 0 ? -8 : 8;
            int x1 = (corner & 2) == 0 ? -8 : 8;
            int x2 = (corner & 4) == 0 ? -8 : 8;
            Checks.due("has(0) of the corner " + corner, x.has(0, x0, x1, x2), 1);
        }
        for (int one = 0; one < 6; one++) Checks.due("twice " + one, x.bound(0, one, one), 116);
        Checks.due("17 times 17 times 17", x.points(0), 4913);
    }

    private void calls() {
        sentences.says("What it is", "An object is used for at most 512 calls after it has been made;");
        String text = "t02+3,a0+1,w1";
        SumBounds x = Checks.of(text);
        int made = text.length() + 1;
        for (int i = made; i < 510; i++) x.by(0, i % 19 - 9);
        Checks.due("the 511th call", x.by(0, 3), 4913);
        Checks.due("the 512th call", x.digest(), Checks.of(text).digest());
    }

    private void signedOnes() {
        says("A SIGNED one is told by 0 to 5: 0 X0, 1 less than 0 times X0, 2 X1,"
                + " 3 less than 0 times X1, 4 X2, 5 less than 0 times X2.");
        for (int one = 0; one < 6; one++) {
            SumBounds x = Checks.of("t" + one + one + "-6");
            for (int value = -8; value <= 8; value++) {
                int[] at = {7, 7, 7};
                at[one / 2] = one % 2 == 0 ? value : -value;
                String call = "no more than -3: " + one + " at " + value;
                Checks.due(call, x.has(1, at[0], at[1], at[2]), value <= -3 ? 1 : 0);
            }
        }
    }

    private void pointsAndShapes() {
        says("A POINT is three such numbers; a SHAPE some POINTS.");
        SumBounds one = Checks.of("s10-0,s20-0,a0-8,a0-8,a0-1");
        Checks.due("one POINT alone", one.points(4), 1);
        Checks.due("it is that one", one.has(4, -8, 8, 8), 1);
        Checks.due("it is no other one", one.has(4, -7, 8, 8), 0);
        Checks.due("none", one.points(5), 0);
    }

    private void bounds() {
        says("BOUND of two SIGNED ones in a SHAPE is the greatest sum of both at any of its POINTS"
                + " (of a SIGNED one and itself: of twice it).");
        SumBounds x = Checks.of("t00+3,t02-9");
        Checks.due("twice X0 is even", x.bound(1, 0, 0), 102);
        Checks.due("of X0 and -X0", x.bound(1, 0, 1), 100);
        Checks.due("of -X0 and X0", x.bound(1, 1, 0), 100);
        Checks.due("of two numbers", x.bound(1, 0, 2), 109);
        Checks.due("of the other signs", x.bound(1, 1, 3), 116);
        Checks.due("as small as a test makes it", x.bound(2, 0, 2), 91);
        Checks.due("X0 is 1 at most, X1 -8 then", x.bound(2, 0, 3), 107);
        Checks.due("X1 is -1 at most", x.bound(2, 2, 2), 98);
        says("BOUNDS are all of these.");
        SumBounds tested = Checks.of("t03-3,t25-4,t15+6");
        int[][] greatest = greatestSums();
        for (int one = 0; one < 6; one++) {
            for (int other = 0; other < 6; other++) {
                String call = "bound(3, " + one + ", " + other + ") of all POINTS that are left";
                Checks.due(call, tested.bound(3, one, other), greatest[one][other] + 100);
            }
        }
        SumBounds point = Checks.of("s10-0,s20-0,a0-8,a0-8");
        int[] values = {-8, 8, 8, -8, 8, -8};
        for (int one = 0; one < 6; one++) {
            for (int other = 0; other < 6; other++) {
                String call = "bound(4, " + one + ", " + other + ") of one POINT";
                Checks.due(call, point.bound(4, one, other), values[one] + values[other] + 100);
            }
        }
    }

    /** Of all points with X0 - X1 no more than -3, X1 - X2 than -4, -X0 - X2 than 6. */
    private static int[][] greatestSums() {
        int[][] greatest = new int[6][6];
        for (int[] row : greatest) Arrays.fill(row, Integer.MIN_VALUE);
        for (int p = 0; p < 4913; p++) {
            int x0 = p / 289 - 8;
            int x1 = p / 17 % 17 - 8;
            int x2 = p % 17 - 8;
            if (x0 - x1 > -3 || x1 - x2 > -4 || -x0 - x2 > 6) continue;
            int[] values = {x0, -x0, x1, -x1, x2, -x2};
            for (int one = 0; one < 6; one++) {
                for (int other = 0; other < 6; other++) {
                    greatest[one][other] = Math.max(greatest[one][other], values[one] + values[other]);
                }
            }
        }
        return greatest;
    }

    private void pointsBy() {
        says("The POINTS BY some BOUNDS are all at which no sum is greater than is told.");
        SumBounds x = Checks.of("t00-6,a0+9,t11-3,t00+9,w1");
        Checks.due("X0 up to -3 joined with 2 to 4", x.points(1), 13 * 289);
        for (int x0 = -8; x0 <= 8; x0++) {
            Checks.due("X0 at " + x0 + ", between both too", x.has(1, x0, 8, -8), x0 <= 4 ? 1 : 0);
        }
    }

    private void oneToSixSteps() {
        says("A PROGRAM is a text: one to six STEPS (numbered from 0) with \",\" between, each a letter,"
                + " the KIND, and behind it:");
        Checks.due("no STEP", new SumBounds().program(), SumBounds.STATE);
        StringBuilder text = new StringBuilder();
        for (int steps = 1; steps <= 6; steps++) {
            text.append(steps == 1 ? "" : ",").append("a1+").append(steps);
            SumBounds x = Checks.of(text.toString());
            Checks.due("the first one is 0", x.step(0, 3), 101);
            Checks.due("the last one", x.step(steps - 1, 3), 100 + steps);
            Checks.due("none behind it", x.step(steps, 3), SumBounds.UNKNOWN);
        }
        SumBounds seven = new SumBounds();
        Checks.write(seven, text + ",f0");
        Checks.due("seven: the \",\" is wrong", seven.fault(), text.length());
        Checks.due("seven", seven.program(), SumBounds.STATE);
        next("", "tsfa");
        next("f0", ",");
        next("f0,", "tsfaw");
        next("f0,f0,f0,f0,f0", ",");
        next("f0,f0,f0,f0,f0,f0", "");
    }

    private void tests() {
        says("KIND 0 STEP \"t\" (a test): two digits 0 to 5 (SIGNED ones), \"+\" or \"-\" and a digit:");
        next("t", SIGNED);
        next("t5", SIGNED);
        next("t50", SIGNS);
        next("t05-", DIGITS);
        next("t05+", DIGITS);
        next("t05+9", ",");
        Checks.due("of kind 0", Checks.of("t05-9").step(0, 0), 0);
        says("only POINTS are left at which the sum of both is no more than that.");
        SumBounds x = Checks.of("t02+9,t35-9,t44-1");
        Checks.due("a sum of 9 is left", x.has(1, 1, 8, 0), 1);
        Checks.due("a sum of 10 is not", x.has(1, 2, 8, 0), 0);
        Checks.due("a sum of -9 is left", x.has(2, 0, 1, 8), 1);
        Checks.due("a sum of -8 is not", x.has(2, 0, 0, 8), 0);
        SumBounds twice = Checks.of("t44-1,t55+2");
        Checks.due("twice -1 is left", twice.has(1, 8, 8, -1), 1);
        Checks.due("twice 0 is not", twice.has(1, 8, 8, 0), 0);
        Checks.due("twice 1, of -1, is left", twice.has(2, 8, 8, -1), 1);
        Checks.due("twice 2, of -2, is not", twice.has(2, 8, 8, -2), 0);
    }

    private void sets() {
        says("KIND 1 SET \"s\": a digit 0 to 2, a digit 0 to 5, \"+\" or \"-\" and a digit:"
                + " that number becomes the SIGNED one (as it was) and so much more (or less).");
        next("s", NUMBERS);
        next("s2", SIGNED);
        next("s25", SIGNS);
        next("s25+", DIGITS);
        next("s25-", DIGITS);
        next("s25-0", ",");
        Checks.due("of kind 1", Checks.of("s25-9").step(0, 0), 1);
        SumBounds x = Checks.of("t00-6,s01-1,s01+9,s12-9");
        Checks.due("X0 up to -3, turned and one less: least", x.bound(2, 1, 1), 96);
        Checks.due("greatest", x.bound(2, 0, 0), 114);
        Checks.due("turned again and 9 more: greatest", x.bound(3, 0, 0), 114);
        Checks.due("least", x.bound(3, 1, 1), 96);
        Checks.due("X1 by itself and 9 less: greatest", x.bound(4, 2, 2), 98);
        Checks.due("least", x.bound(4, 3, 3), 116);
        SumBounds other = Checks.of("s23+9,s14+0");
        Checks.due("X2 is -X1 and 9 more: X2 and X1", other.bound(1, 4, 2), 109);
        Checks.due("at every POINT", other.bound(1, 5, 3), 91);
        Checks.due("X1 is X2 then", other.bound(2, 2, 5), 100);
        Checks.due("at every POINT, too", other.bound(2, 3, 4), 100);
    }

    private void losses() {
        says("KIND 2 LOSE \"f\": a digit 0 to 2: that number becomes any one of -8 to 8.");
        next("f", NUMBERS);
        for (int number = 0; number < 3; number++) {
            SumBounds x = Checks.of("s10-0,s20-0,a0-8,a0-8,f" + number);
            Checks.due("of kind 2", x.step(4, 0), 2);
            Checks.due("one POINT ahead of it", x.points(4), 1);
            Checks.due("17 behind it", x.points(5), 17);
            int[] at = {-8, 8, 8};
            for (int value = -8; value <= 8; value += 8) {
                at[number] = value;
                Checks.due("at " + value, x.has(5, at[0], at[1], at[2]), 1);
            }
        }
    }

    private void moves() {
        says("KIND 3 MOVE \"a\": a digit 0 to 2, \"+\" or \"-\" and a digit:"
                + " that number becomes so much more (or less).");
        next("a", NUMBERS);
        next("a2", SIGNS);
        next("a2+", DIGITS);
        next("a2-", DIGITS);
        next("a2-9", ",");
        SumBounds x = Checks.of("a0+9,a1-9,a2+0,a2-0");
        Checks.due("of kind 3", x.step(0, 0), 3);
        Checks.due("9 more: 1 at least", x.bound(1, 1, 1), 98);
        Checks.due("9 less: -1 at most", x.bound(2, 2, 2), 98);
        Checks.due("0 more does nothing", x.step(2, 6), 1);
        Checks.due("0 less does nothing", x.step(3, 6), 1);
    }

    private void loops() {
        says("KIND 4 LOOP \"w\": a digit, the number of a STEP ahead of it, not one ahead of or at another"
                + " LOOP (which is ahead of it): it is gone back there.");
        next("f0,w", "0");
        next("f0,f0,w", "01");
        next("f0,f0,f0,f0,f0,w", "01234");
        next("f0,w0", ",");
        next("f0,w0,", "tsfa");
        next("f0,w0,f0,w", "2");
        next("f0,f0,w1,f0,f0,w", "34");
        next("f0,w0,f0,w2,f0,w", "4");
        next("f0,f0,f0,f0,f0,w4", "");
        SumBounds x = Checks.of("t00+0,a0+1,w1");
        Checks.due("of kind 4", x.step(2, 0), 4);
        Checks.due("without going back X0 would be 1 at most", x.bound(2, 0, 0), 116);
    }

    private void kinds() {
        says("All are STEPS; a MOVE is a SET, too.");
        SumBounds x = Checks.of("t00+0,s00+0,f0,a0+0,w0");
        for (int step = 0; step < 5; step++) {
            Checks.due("a STEP: " + step, x.as(step, 0), step);
            Checks.due("a SET: " + step, x.as(step, 1), step == 1 || step == 3 ? step : SumBounds.NONE);
        }
    }

    private void noneAtFirst() {
        says("At first there is none.");
        SumBounds x = new SumBounds();
        Checks.due("no STEPS", x.count(0), 0);
        Checks.due("none was read", x.count(9), 0);
        Checks.due("no STEP 0", x.step(0, 0), SumBounds.UNKNOWN);
    }

    private void lostPoints() {
        says("POINTS at which a number would be less than -8, more than 8 are lost.");
        SumBounds up = Checks.of("a0+3,a0+5,a0+8,a0+1");
        Checks.due("X0 becomes -5 to 8", up.points(1), 14 * 289);
        Checks.due("0 to 8", up.points(2), 9 * 289);
        Checks.due("8 alone", up.points(3), 289);
        Checks.due("8 is there", up.has(3, 8, -8, 8), 1);
        Checks.due("9 would be too much", up.points(4), 0);
        SumBounds down = Checks.of("a1-8,s12-8,s12-1");
        Checks.due("X1 becomes -8 to 0", down.points(1), 9 * 289);
        Checks.due("-8 alone", down.points(2), 289);
        Checks.due("-8 is there", down.has(2, 8, -8, 8), 1);
        Checks.due("-9 would be too little", down.points(3), 0);
        SumBounds other = Checks.of("s21+9,s20-9");
        Checks.due("X2 is -X0 and 9 more: X0 is 1 at least", other.points(1), 8 * 17);
        Checks.due("POINTS with X0 below are lost", other.bound(1, 1, 1), 98);
        Checks.due("X2 is X0 and 9 less: no X0 is lost now", other.points(2), 8 * 17);
    }
}
