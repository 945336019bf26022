/** Promises 13 to 17: put, take, by, rack, racked. */
public final class DoneTest {
    public static void main(String[] args) {
        putKinds();
        putMovesLoops();
        putRefusals();
        takeMovesLoops();
        takeRefusals();
        bys();
        racks();
        racksEmptied();
        Checks.end();
    }

    /** The steps of an object, as a program's text (of numbers that a text can have). */
    private static String text(SumBounds x) {
        StringBuilder text = new StringBuilder();
        for (int i = 0; i < x.count(0); i++) {
            if (i > 0) text.append(',');
            text.append("tsfaw".charAt(x.step(i, 0))).append(x.step(i, 1));
            if (x.step(i, 2) != SumBounds.NONE) text.append(x.step(i, 2));
            int by = x.step(i, 3);
            if (by != SumBounds.NONE) text.append(by < 100 ? '-' : '+').append(Math.abs(by - 100));
        }
        return text.toString();
    }

    /** An object is as a new one of that text: in all that it tells of steps and shapes. */
    private static void isNow(SumBounds x, String want) {
        Checks.due(text(x) + " is " + want, text(x).equals(want) ? 1 : 0, 1);
        Checks.due("as if it was read: " + want, x.digest(), Checks.of(want).digest());
    }

    private static void putKinds() {
        SumBounds x = Checks.of("f0");
        Checks.due("put a test", x.put(0, 0, 5, 3, -9), 2);
        Checks.due("put a SET behind all", x.put(2, 1, 2, 5, 9), 3);
        Checks.due("put a LOSE", x.put(1, 2, 1, 77, -77), 4);
        Checks.due("put a MOVE", x.put(4, 3, 2, -77, 0), 5);
        Checks.due("put the sixth", x.put(5, 0, 0, 0, 0), 6);
        isNow(x, "t53-9,f1,f0,s25+9,a2+0,t00+0");
    }

    private static void putMovesLoops() {
        String[] want = {
            "f2,f0,a1+1,w2,f1,w4", "f0,f2,a1+1,w1,f1,w4", "f0,a1+1,f2,w1,f1,w4",
            "f0,a1+1,w1,f2,f1,w3", "f0,a1+1,w1,f1,f2,w3", "f0,a1+1,w1,f1,w3,f2"};
        for (int place = 0; place < 6; place++) {
            SumBounds x = Checks.of("f0,a1+1,w1,f1,w3");
            Checks.due("put(" + place + ")", x.put(place, 2, 2, 0, 0), 6);
            isNow(x, want[place]);
        }
    }

    private static void putRefusals() {
        SumBounds x = Checks.of("f0,f1");
        for (int place : new int[] {-1, 3, Integer.MIN_VALUE, Integer.MAX_VALUE}) {
            Checks.refused(x, "put at " + place, () -> x.put(place, 9, 9, 9, 99), SumBounds.UNKNOWN);
        }
        for (int kind : new int[] {-1, 4, 5, Integer.MIN_VALUE, Integer.MAX_VALUE}) {
            Checks.refused(x, "put of kind " + kind, () -> x.put(0, kind, 0, 0, 0), SumBounds.OUTSIDE);
        }
        for (int kind = 0; kind < 4; kind++) {
            int k = kind;
            int most = kind == 0 ? 5 : 2;
            Checks.refused(x, "put one -1", () -> x.put(0, k, -1, 0, 0), SumBounds.OUTSIDE);
            Checks.refused(x, "put one above", () -> x.put(0, k, most + 1, 0, 0), SumBounds.OUTSIDE);
        }
        for (int other : new int[] {-1, 6, Integer.MIN_VALUE}) {
            Checks.refused(x, "put test of " + other, () -> x.put(0, 0, 0, other, 0), SumBounds.OUTSIDE);
            Checks.refused(x, "put SET of " + other, () -> x.put(0, 1, 0, other, 0), SumBounds.OUTSIDE);
        }
        for (int by : new int[] {-10, 10, Integer.MIN_VALUE, Integer.MAX_VALUE}) {
            Checks.refused(x, "put test by " + by, () -> x.put(0, 0, 0, 0, by), SumBounds.OUTSIDE);
            Checks.refused(x, "put SET by " + by, () -> x.put(0, 1, 0, 0, by), SumBounds.OUTSIDE);
            Checks.refused(x, "put MOVE by " + by, () -> x.put(0, 3, 0, 0, by), SumBounds.OUTSIDE);
        }
        SumBounds full = Checks.of("f0,f0,f0,f0,f0,f0");
        Checks.refused(full, "put a seventh", () -> full.put(6, 2, 0, 0, 0), SumBounds.FULL);
        Checks.refused(full, "put a seventh wrong one", () -> full.put(6, 2, 3, 0, 0), SumBounds.OUTSIDE);
        Checks.refused(full, "put it at 7", () -> full.put(7, 2, 0, 0, 0), SumBounds.UNKNOWN);
    }

    private static void takeMovesLoops() {
        String[] want = {
            "a1+1,f2,w0,f1,w3", "f0,f2,w1,f1,w3", "f0,a1+1,w1,f1,w3",
            "f0,a1+1,f2,f1,w3", null, "f0,a1+1,f2,w1,f1"};
        for (int step = 0; step < 6; step++) {
            SumBounds x = Checks.of("f0,a1+1,f2,w1,f1,w4");
            int taken = step;
            if (want[step] == null) {
                Checks.refused(x, "take all of a loop", () -> x.take(taken), SumBounds.STATE);
            } else {
                Checks.due("take(" + step + ")", x.take(step), 5);
                isNow(x, want[step]);
            }
        }
    }

    private static void takeRefusals() {
        SumBounds x = Checks.of("f0,w0");
        Checks.refused(x, "take(0)", () -> x.take(0), SumBounds.STATE);
        for (int step : new int[] {-1, 2, Integer.MIN_VALUE, Integer.MAX_VALUE}) {
            Checks.refused(x, "take(" + step + ")", () -> x.take(step), SumBounds.UNKNOWN);
        }
        Checks.due("take the LOOP", x.take(1), 1);
        Checks.refused(x, "take the only one", () -> x.take(0), SumBounds.STATE);
        Checks.refused(x, "take(1) of one", () -> x.take(1), SumBounds.UNKNOWN);
    }

    private static void bys() {
        SumBounds x = Checks.of("t00+0,s12-3,a2+1,f1,w0");
        Checks.due("by(0, -9)", x.by(0, -9), 4913);
        Checks.due("by(1, 9)", x.by(1, 9), 4913);
        Checks.due("by(2, -9)", x.by(2, -9), 4913);
        isNow(x, "t00-9,s12+9,a2-9,f1,w0");
        SumBounds last = Checks.of("f0,t00+0");
        Checks.due("by(1, -9)", last.by(1, -9), 4 * 289);
        Checks.due("by(1, 9)", last.by(1, 9), 13 * 289);
        Checks.refused(x, "by(3, 0) of LOSE", () -> x.by(3, 0), SumBounds.STATE);
        Checks.refused(x, "by(4, 0) of LOOP", () -> x.by(4, 0), SumBounds.STATE);
        Checks.refused(x, "by(3, 10)", () -> x.by(3, 10), SumBounds.OUTSIDE);
        Checks.refused(x, "by(0, -10)", () -> x.by(0, -10), SumBounds.OUTSIDE);
        Checks.refused(x, "by(5, 10)", () -> x.by(5, 10), SumBounds.UNKNOWN);
        Checks.refused(x, "by(-1, 0)", () -> x.by(-1, 0), SumBounds.UNKNOWN);
    }

    private static void racks() {
        SumBounds x = Checks.of("t00+0,s00+0,f0,a0+0,w0");
        Checks.due("a LOSE is a STEP", x.rack(2, 0), 1);
        Checks.due("a LOOP is a STEP", x.rack(4, 0), 2);
        Checks.due("a test is one", x.rack(0, 0), 3);
        Checks.refused(x, "a fourth one", () -> x.rack(1, 0), SumBounds.FULL);
        Checks.due("a MOVE is a SET", x.rack(3, 1), 1);
        Checks.due("a SET", x.rack(1, 1), 2);
        Checks.refused(x, "a SET is no MOVE", () -> x.rack(1, 3), SumBounds.NONE);
        Checks.refused(x, "a test is no SET", () -> x.rack(0, 1), SumBounds.NONE);
        Checks.due("a SET once more", x.rack(1, 1), 3);
        Checks.refused(x, "a test on a full RACK of SETS", () -> x.rack(0, 1), SumBounds.FULL);
        Checks.due("a LOOP", x.rack(4, 4), 1);
        int[][] want = {{2, 4, 0}, {3, 1, 1}, {-1, -1, -1}, {-1, -1, -1}, {4, -1, -1}};
        for (int kind = 0; kind < 5; kind++) {
            for (int n = 0; n < 3; n++) Checks.due("racked(" + kind + ", " + n + ")", x.racked(kind, n), want[kind][n]);
        }
        Checks.due("STEPS on all RACKS", x.count(6), 7);
        Checks.refused(x, "rack(5, 5)", () -> x.rack(5, 5), SumBounds.UNKNOWN);
        Checks.refused(x, "rack(-1, 0)", () -> x.rack(-1, 0), SumBounds.UNKNOWN);
        Checks.refused(x, "rack(0, 5)", () -> x.rack(0, 5), SumBounds.OUTSIDE);
        Checks.refused(x, "rack(0, -1)", () -> x.rack(0, -1), SumBounds.OUTSIDE);
        Checks.refused(x, "racked(5, 0)", () -> x.racked(5, 0), SumBounds.OUTSIDE);
        Checks.refused(x, "racked(-1, 0)", () -> x.racked(-1, 0), SumBounds.OUTSIDE);
        Checks.refused(x, "racked(0, 3)", () -> x.racked(0, 3), SumBounds.OUTSIDE);
        Checks.refused(x, "racked(0, -1)", () -> x.racked(0, -1), SumBounds.OUTSIDE);
    }

    private static void racksEmptied() {
        SumBounds x = Checks.of("t00+0,f0");
        x.rack(0, 0);
        x.see(0, 0, true);
        x.forget();
        x.image();
        Checks.refused(x, "put of nothing", () -> x.put(9, 0, 0, 0, 0), SumBounds.UNKNOWN);
        Checks.due("no STEP changed", x.count(6), 1);
        x.put(2, 2, 1, 0, 0);
        Checks.due("behind put()", x.count(6), 0);
        x.rack(0, 0);
        x.take(2);
        Checks.due("behind take()", x.count(6), 0);
        x.rack(0, 0);
        x.by(0, 4);
        Checks.due("behind by()", x.count(6), 0);
        Checks.due("nothing at its place", x.racked(0, 0), SumBounds.NONE);
        x.rack(0, 0);
        x.restore();
        Checks.due("behind restore()", x.count(6), 0);
    }
}
