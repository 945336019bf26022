import java.util.function.Supplier;

/** Promises 13 to 17: put, take, by, rack, racked; and the document's term of a rack. */
final class EdgesOfDone {
    private static final int LEAST = Integer.MIN_VALUE, GREATEST = Integer.MAX_VALUE;

    private final Sentences sentences;

    EdgesOfDone(Sentences sentences) {
        this.sentences = sentences;
    }

    void all() {
        puts();
        loopsBehindPut();
        putUnknown();
        putOutside();
        putStateAndFull();
        takes();
        loopsBehindTake();
        takeRefusals();
        bys();
        byRefusals();
        racks();
        racksEmptied();
        puttingOnRacks();
        rackRefusals();
        racked();
    }

    /** The steps of an object, as a program's text. */
    private static String text(SumBounds x) {
        StringBuilder text = new StringBuilder();
        for (int i = 0; i < x.count(0); i++) {
            if (i > 0) text.append(',');
            text.append("tsfaw".charAt(x.step(i, 0))).append(x.step(i, 1));
            if (x.step(i, 2) != SumBounds.NONE) text.append(x.step(i, 2));
            int by = x.step(i, 3);
            if (by != SumBounds.NONE) text.append(by < 100 ? '-' : '+').append(Math.abs(by - 100));
        }
        return text.toString();
    }

    /** It is as if that text had been read: in all that is told of steps and shapes. */
    private static void isNow(SumBounds x, String want) {
        Checks.due(text(x) + " is " + want, text(x).equals(want) ? 1 : 0, 1);
        Checks.due("told as " + want, x.digest(), Checks.of(want).digest());
    }

    private void puts() {
        sentences.says("Promise 13", "A STEP of a KIND that is no LOOP is put in at a place");
        String[] want = {"a2-9,f0,f1", "f0,a2-9,f1", "f0,f1,a2-9"};
        for (int place = 0; place <= 2; place++) {
            SumBounds x = Checks.of("f0,f1");
            Checks.due("put at " + place, x.put(place, 3, 2, 0, -9), 3);
            isNow(x, want[place]);
        }
        sentences.says("Promise 13", "how many STEPS.");
        SumBounds x = Checks.of("f0");
        Checks.due("a test", x.put(0, 0, 5, 5, 9), 2);
        Checks.due("a SET", x.put(0, 1, 2, 5, -9), 3);
        Checks.due("a LOSE", x.put(0, 2, 2, 5, 9), 4);
        Checks.due("a MOVE", x.put(0, 3, 2, 5, 0), 5);
        Checks.due("the sixth", x.put(5, 0, 0, 0, -1), 6);
        isNow(x, "a2+0,f2,s25-9,t55+9,f0,t00-1");
    }

    private void loopsBehindPut() {
        sentences.says("Promise 13", "(LOOPS behind it go back to the same STEPS as before;");
        put("a0+1,f1,w1", 0, "t22+3,a0+1,f1,w2");
        put("a0+1,f1,w0", 2, "a0+1,f1,t22+3,w0");
        put("a0+1,f1,w1", 2, "a0+1,f1,t22+3,w1");
        put("a0+1,w0,f1,w2", 0, "t22+3,a0+1,w0,f1,w3");
        put("a0+1,w0,f1,f2,w3", 1, "a0+1,t22+3,w0,f1,f2,w4");
        put("a0+1,w0,f1,f2,w3", 3, "a0+1,w0,f1,t22+3,f2,w3");
        put("a0+1,w0,f1", 2, "a0+1,w0,t22+3,f1");
        put("a0+1,w0", 2, "a0+1,w0,t22+3");
        sentences.says("Promise 13", "if it is put right there, to it):");
        put("a0+1,w0", 0, "t22+3,a0+1,w0");
        put("a0+1,f1,w1", 1, "a0+1,t22+3,f1,w1");
        put("a0+1,w0,f1,w2", 2, "a0+1,w0,t22+3,f1,w2");
    }

    private static void put(String program, int place, String want) {
        SumBounds x = Checks.of(program);
        int steps = want.split(",").length;
        Checks.due("put at " + place + " of " + program, x.put(place, 0, 2, 2, 3), steps);
        isNow(x, want);
    }

    private void putUnknown() {
        sentences.says("Promise 13", "UNKNOWN: place (0 to as many as there are);");
        for (int place : new int[] {-1, 6, 7, LEAST, GREATEST}) {
            String call = "put at " + place;
            Portrait.keeps(Portrait::busy, call, x -> x.put(place, 2, 0, 0, 0), SumBounds.UNKNOWN);
            Portrait.keeps(Portrait::busy, call, x -> x.put(place, 4, 9, 9, 99), SumBounds.UNKNOWN);
        }
        Portrait.keeps(Portrait::busyAndFull, "put at 7", x -> x.put(7, 2, 0, 0, 0), SumBounds.UNKNOWN);
        Portrait.keeps(SumBounds::new, "put at 1 of none", x -> x.put(1, 2, 0, 0, 0), SumBounds.UNKNOWN);
        Portrait.keeps(SumBounds::new, "put at -1 of none", x -> x.put(-1, 2, 0, 0, 0), SumBounds.UNKNOWN);
    }

    private static void outside(int kind, int one, int other, int by) {
        String call = "put(0, " + kind + ", " + one + ", " + other + ", " + by + ")";
        Portrait.keeps(Portrait::busy, call, x -> x.put(0, kind, one, other, by), SumBounds.OUTSIDE);
        Portrait.keeps(Portrait::busyAndFull, call, x -> x.put(6, kind, one, other, by), SumBounds.OUTSIDE);
        Portrait.keeps(SumBounds::new, call, x -> x.put(0, kind, one, other, by), SumBounds.OUTSIDE);
    }

    private static void taken(int kind, int one, int other, int by) {
        String call = "put(5, " + kind + ", " + one + ", " + other + ", " + by + ")";
        Checks.due(call, Portrait.busy().put(5, kind, one, other, by), 6);
    }

    private void putOutside() {
        sentences.says("Promise 13", "OUTSIDE: kind (0 to 3),");
        for (int kind : new int[] {-1, 4, 5, LEAST, GREATEST}) outside(kind, 0, 0, 0);
        for (int kind = 0; kind <= 3; kind++) taken(kind, 0, 0, 0);
        sentences.says("Promise 13", "one (0 to 5 for a test, else 0 to 2),");
        for (int one : new int[] {-1, 6, LEAST, GREATEST}) outside(0, one, 0, 0);
        for (int kind = 1; kind <= 3; kind++) {
            for (int one : new int[] {-1, 3, 5, 6, LEAST, GREATEST}) outside(kind, one, 0, 0);
            taken(kind, 2, 0, 0);
        }
        taken(0, 5, 0, 0);
        sentences.says("Promise 13", "other (0 to 5; not looked at for LOSE, MOVE),");
        for (int other : new int[] {-1, 6, LEAST, GREATEST}) {
            outside(0, 0, other, 0);
            outside(1, 0, other, 0);
            taken(2, 0, other, 0);
            taken(3, 0, other, 0);
        }
        taken(0, 0, 5, 0);
        taken(1, 0, 5, 0);
        sentences.says("Promise 13", "by (-9 to 9; not looked at for LOSE);");
        for (int by : new int[] {-10, 10, LEAST, GREATEST}) {
            for (int kind : new int[] {0, 1, 3}) outside(kind, 0, 0, by);
            taken(2, 0, 0, by);
        }
        for (int kind : new int[] {0, 1, 3}) {
            taken(kind, 0, 0, -9);
            taken(kind, 0, 0, 9);
        }
        SumBounds lost = Checks.of("f0");
        lost.put(0, 2, 1, 77, 77);
        isNow(lost, "f1,f0");
    }

    private void putStateAndFull() {
        sentences.says("Promise 13", "STATE: no PROGRAM;");
        for (int kind = 0; kind <= 3; kind++) {
            int k = kind;
            Portrait.keeps(SumBounds::new, "put of " + k, x -> x.put(0, k, 0, 0, 0), SumBounds.STATE);
        }
        sentences.says("Promise 13", "FULL: there are six.");
        for (int place = 0; place <= 6; place++) {
            int at = place;
            Portrait.keeps(Portrait::busyAndFull, "put at " + at, x -> x.put(at, 2, 0, 0, 0), SumBounds.FULL);
        }
        Checks.due("the sixth has room", Portrait.busy().put(0, 2, 0, 0, 0), 6);
        SumBounds x = Portrait.busyAndFull();
        x.take(5);
        Checks.due("behind take()", x.put(0, 2, 0, 0, 0), 6);
    }

    private static void take(String program, int step, String want) {
        SumBounds x = Checks.of(program);
        int steps = want.split(",").length;
        Checks.due("take(" + step + ") of " + program, x.take(step), steps);
        isNow(x, want);
    }

    private void takes() {
        sentences.says("Promise 14", "A STEP is taken out");
        take("t00+1,s21-2,f1", 0, "s21-2,f1");
        take("t00+1,s21-2,f1", 1, "t00+1,f1");
        take("t00+1,s21-2,f1", 2, "t00+1,s21-2");
        take("f0,a1+1,w1,f2", 2, "f0,a1+1,f2");
        sentences.says("Promise 14", "how many STEPS are left.");
        SumBounds x = Checks.of("f0,f1,f2,f0,f1,f2");
        for (int left = 5; left >= 1; left--) Checks.due("take(0)", x.take(0), left);
        isNow(x, "f2");
    }

    private void loopsBehindTake() {
        sentences.says("Promise 14", "(LOOPS behind it go back to the same STEPS as before;");
        take("f0,a1+1,w1", 0, "a1+1,w0");
        take("f0,a1+1,f2,w1", 2, "f0,a1+1,w1");
        take("f0,w0,a1+1,f2,w3", 2, "f0,w0,f2,w2");
        take("f0,w0,a1+1,f2,w3", 1, "f0,a1+1,f2,w2");
        take("f0,w0,a1+1,f2,w2", 4, "f0,w0,a1+1,f2");
        take("f0,a1+1,w1,f2", 3, "f0,a1+1,w1");
        sentences.says("Promise 14", "if it was that one, to the next one):");
        take("f0,a1+1,w0", 0, "a1+1,w0");
        take("f0,a1+1,f2,w1", 1, "f0,f2,w1");
        take("f0,w0,a1+1,f2,w2", 2, "f0,w0,f2,w2");
    }

    private void takeRefusals() {
        sentences.says("Promise 14", "UNKNOWN;");
        for (int step : new int[] {-1, 5, 6, LEAST, GREATEST}) {
            Portrait.keeps(Portrait::busy, "take(" + step + ")", x -> x.take(step), SumBounds.UNKNOWN);
        }
        Portrait.keeps(Portrait::busyAndFull, "take(6)", x -> x.take(6), SumBounds.UNKNOWN);
        Portrait.keeps(() -> Checks.of("f0"), "take(1) of one", x -> x.take(1), SumBounds.UNKNOWN);
        Portrait.keeps(SumBounds::new, "take(0) of none", x -> x.take(0), SumBounds.UNKNOWN);
        sentences.says("Promise 14", "STATE: it is the only one, or a LOOP would go back to itself.");
        Portrait.keeps(() -> Checks.of("t00+0"), "take the only one", x -> x.take(0), SumBounds.STATE);
        Portrait.keeps(Portrait::busy, "take all of a LOOP", x -> x.take(1), SumBounds.STATE);
        Portrait.keeps(() -> Checks.of("f0,w0"), "take all ahead of a LOOP", x -> x.take(0), SumBounds.STATE);
        Portrait.keeps(() -> Checks.of("f0,w0,f1,w2"), "of the second one", x -> x.take(2), SumBounds.STATE);
        take("f0,f1,w0", 1, "f0,w0");
        take("f0,f1,w1", 0, "f1,w0");
        take("f0,w0", 1, "f0");
    }

    private void bys() {
        sentences.says("Promise 15", "Another number behind the sign: POINTS behind the last STEP then.");
        SumBounds x = Checks.of("t00+0,s12-3,a2+1");
        Checks.due("of a test: X0 up to -5, X1 less by 3, X2 more by 1", x.by(0, -9), 4 * 14 * 16);
        Checks.due("of a SET: X1 up to -1", x.by(1, -9), 4 * 8 * 16);
        Checks.due("of a MOVE: X2 from 1 on", x.by(2, 9), 4 * 8 * 8);
        isNow(x, "t00-9,s12-9,a2+9");
        Checks.due("the same number", x.by(2, 9), 4 * 8 * 8);
        Checks.due("0", x.by(2, 0), 4 * 8 * 17);
        isNow(x, "t00-9,s12-9,a2+0");
        Checks.due("none are left", Checks.of("f0,t01+0").by(1, -1), 0);
    }

    private void byRefusals() {
        sentences.says("Promise 15", "UNKNOWN;");
        for (int step : new int[] {-1, 5, 6, LEAST, GREATEST}) {
            Portrait.keeps(Portrait::busy, "by(" + step + ", 0)", x -> x.by(step, 0), SumBounds.UNKNOWN);
            Portrait.keeps(Portrait::busy, "by(" + step + ", 10)", x -> x.by(step, 10), SumBounds.UNKNOWN);
        }
        Portrait.keeps(SumBounds::new, "by(0, 0) of none", x -> x.by(0, 0), SumBounds.UNKNOWN);
        sentences.says("Promise 15", "OUTSIDE: by (-9 to 9);");
        for (int by : new int[] {-10, 10, LEAST, GREATEST}) {
            for (int step = 0; step < 5; step++) {
                int of = step;
                Portrait.keeps(Portrait::busy, "by(" + of + ", " + by + ")", x -> x.by(of, by), SumBounds.OUTSIDE);
            }
        }
        sentences.says("Promise 15", "STATE: it has none.");
        Portrait.keeps(Portrait::busy, "by() of a LOSE", x -> x.by(4, 0), SumBounds.STATE);
        Portrait.keeps(Portrait::busy, "by() of a LOOP", x -> x.by(2, 9), SumBounds.STATE);
    }

    private void racks() {
        sentences.says("Terms", "A RACK is of a KIND, has three places,");
        SumBounds x = Checks.of("t00+0,s00+0,f0,a0+0,w0");
        int[] such = {0, 3, 2, 3, 4};
        for (int kind = 0; kind < 5; kind++) {
            for (int n = 1; n <= 3; n++) Checks.due("on RACK " + kind, x.rack(such[kind], kind), n);
            Checks.due("a fourth one", x.rack(such[kind], kind), SumBounds.FULL);
        }
        Checks.due("five times three", x.count(6), 15);
        sentences.says("Terms", "takes STEPS (by their numbers) that are of its KIND or of one that is that, too;");
        SumBounds each = Checks.of("t00+0,s00+0,f0,a0+0,w0");
        int[] kinds = {0b00001, 0b00011, 0b00101, 0b01011, 0b10001};
        for (int kind = 1; kind < 5; kind++) {
            int there = 0;
            for (int step = 0; step < 5; step++) {
                boolean taken = (kinds[step] >> kind & 1) == 1;
                Checks.due("rack(" + step + ", " + kind + ")", each.rack(step, kind), taken ? there + 1 : SumBounds.NONE);
                if (taken) Checks.due("its number", each.racked(kind, there++), step);
            }
        }
        for (int step = 0; step < 5; step++) {
            Checks.due("each is a STEP", Checks.of("t00+0,s00+0,f0,a0+0,w0").rack(step, 0), 1);
        }
    }

    private static void emptied(String how, SumBounds x) {
        Checks.due("on all RACKS behind " + how, x.count(6), 0);
        Checks.due("at the first place", x.racked(0, 0), SumBounds.NONE);
        Checks.due("there is room again", x.rack(0, 0), 1);
    }

    private void racksEmptied() {
        sentences.says("Terms", "all are empty when a STEP changes.");
        SumBounds put = Portrait.busy();
        put.put(5, 2, 0, 0, 0);
        emptied("put()", put);
        SumBounds take = Portrait.busy();
        take.take(4);
        emptied("take()", take);
        SumBounds by = Portrait.busy();
        by.by(3, 5);
        emptied("by()", by);
        SumBounds same = Portrait.busy();
        same.by(0, 2);
        emptied("by() of the same number", same);
        SumBounds read = Portrait.busy();
        read.program();
        emptied("program()", read);
        SumBounds restored = Portrait.busy();
        restored.restore();
        emptied("restore()", restored);
        SumBounds seen = Portrait.busy();
        seen.see(0, 0, true);
        seen.forget();
        seen.image();
        seen.blank();
        seen.drawn(8, 1, 1);
        Checks.due("no STEP has changed", seen.count(6), 4);
    }

    private void puttingOnRacks() {
        sentences.says("Promise 16", "A STEP is put on the RACK of a KIND: how many are there then;");
        SumBounds x = Checks.of("f0,f1,f2,a0+1");
        for (int step = 0; step < 3; step++) Checks.due("rack(" + step + ", 2)", x.rack(step, 2), step + 1);
        Checks.due("on another RACK", x.rack(3, 3), 1);
        Checks.due("on all", x.count(6), 4);
        sentences.says("Promise 16", "NONE: it is none such (it is not taken).");
        Portrait.keeps(Portrait::busy, "a test is no SET", s -> s.rack(0, 1), SumBounds.NONE);
        Portrait.keeps(Portrait::busy, "a SET is no MOVE", s -> s.rack(3, 3), SumBounds.NONE);
        Portrait.keeps(Portrait::busy, "a LOSE is no SET", s -> s.rack(4, 1), SumBounds.NONE);
        Portrait.keeps(Portrait::busy, "a LOOP is no MOVE", s -> s.rack(2, 3), SumBounds.NONE);
        Portrait.keeps(Portrait::busy, "a MOVE is no LOOP", s -> s.rack(1, 4), SumBounds.NONE);
        Portrait.keeps(Portrait::busy, "a MOVE is no LOSE", s -> s.rack(1, 2), SumBounds.NONE);
    }

    private void rackRefusals() {
        sentences.says("Promise 16", "UNKNOWN;");
        for (int step : new int[] {-1, 5, 6, LEAST, GREATEST}) {
            Portrait.keeps(Portrait::busy, "rack(" + step + ", 0)", x -> x.rack(step, 0), SumBounds.UNKNOWN);
            Portrait.keeps(Portrait::busy, "rack(" + step + ", 5)", x -> x.rack(step, 5), SumBounds.UNKNOWN);
        }
        sentences.says("Promise 16", "OUTSIDE: kind (0 to 4);");
        for (int kind : new int[] {-1, 5, LEAST, GREATEST}) {
            Portrait.keeps(Portrait::busy, "rack(0, " + kind + ")", x -> x.rack(0, kind), SumBounds.OUTSIDE);
        }
        sentences.says("Promise 16", "FULL: three are there.");
        Supplier<SumBounds> full = () -> {
            SumBounds x = Portrait.busy();
            x.rack(4, 0);
            x.rack(3, 1);
            x.rack(3, 1);
            return x;
        };
        Portrait.keeps(full, "a fourth STEP", x -> x.rack(0, 0), SumBounds.FULL);
        Portrait.keeps(full, "a fourth SET", x -> x.rack(1, 1), SumBounds.FULL);
        Portrait.keeps(full, "one that is no SET, too", x -> x.rack(0, 1), SumBounds.FULL);
        Portrait.keeps(full, "no STEP at all", x -> x.rack(5, 1), SumBounds.UNKNOWN);
        Checks.due("another RACK has room", full.get().rack(1, 3), 1);
    }

    private void racked() {
        sentences.says("Promise 17", "Which STEP is at a place (0 to 2) of the RACK of a KIND; NONE.");
        SumBounds x = Checks.of("t00+0,s00+0,f0,a0+0,w0");
        for (int step = 4; step >= 2; step--) x.rack(step, 0);
        x.rack(3, 1);
        x.rack(1, 1);
        x.rack(4, 4);
        int[][] want = {{4, 3, 2}, {3, 1, -1}, {-1, -1, -1}, {-1, -1, -1}, {4, -1, -1}};
        for (int kind = 0; kind < 5; kind++) {
            for (int n = 0; n < 3; n++) Checks.due("racked(" + kind + ", " + n + ")", x.racked(kind, n), want[kind][n]);
        }
        sentences.says("Promise 17", "OUTSIDE: kind (0 to 4), number.");
        for (int kind : new int[] {-1, 5, LEAST, GREATEST}) {
            Portrait.keeps(Portrait::busy, "racked(" + kind + ", 0)", s -> s.racked(kind, 0), SumBounds.OUTSIDE);
            Portrait.keeps(SumBounds::new, "racked(" + kind + ", 3)", s -> s.racked(kind, 3), SumBounds.OUTSIDE);
        }
        for (int number : new int[] {-1, 3, LEAST, GREATEST}) {
            Portrait.keeps(Portrait::busy, "racked(0, " + number + ")", s -> s.racked(0, number), SumBounds.OUTSIDE);
            Portrait.keeps(Portrait::busy, "racked(4, " + number + ")", s -> s.racked(4, number), SumBounds.OUTSIDE);
        }
    }
}
