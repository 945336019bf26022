/** Promises 1 to 7: a new object, letter, blank, fault, program, step, as. */
public final class ProgramTest {
    public static void main(String[] args) {
        newObject();
        letters();
        faults();
        programs();
        programsThatAreNone();
        anotherProgram();
        stepsTold();
        deadKillsIdle();
        casts();
        Checks.end();
    }

    private static void newObject() {
        SumBounds x = new SumBounds();
        for (int what = 0; what < 10; what++) Checks.due("new: count(" + what + ")", x.count(what), 0);
        Checks.due("new: fault()", x.fault(), 0);
        Checks.due("new: blank()", x.blank(), 0);
        Checks.due("new: forget()", x.forget(), 0);
        Checks.due("new: program()", x.program(), SumBounds.STATE);
        Checks.due("new: step(0, 0)", x.step(0, 0), SumBounds.UNKNOWN);
        Checks.due("new: as(0, 0)", x.as(0, 0), SumBounds.UNKNOWN);
        Checks.due("new: points(0)", x.points(0), SumBounds.UNKNOWN);
        Checks.due("new: bound(0, 0, 0)", x.bound(0, 0, 0), SumBounds.UNKNOWN);
        Checks.due("new: has(0, 0, 0, 0)", x.has(0, 0, 0, 0), SumBounds.UNKNOWN);
        Checks.due("new: share(0)", x.share(0), SumBounds.UNKNOWN);
        Checks.due("new: compare(0, 0)", x.compare(0, 0), SumBounds.UNKNOWN);
        Checks.due("new: put(0, 0, 0, 0, 0)", x.put(0, 0, 0, 0, 0), SumBounds.STATE);
        Checks.due("new: put(1, 0, 0, 0, 0)", x.put(1, 0, 0, 0, 0), SumBounds.UNKNOWN);
        Checks.due("new: put(0, 4, 0, 0, 0)", x.put(0, 4, 0, 0, 0), SumBounds.OUTSIDE);
        Checks.due("new: take(0)", x.take(0), SumBounds.UNKNOWN);
        Checks.due("new: by(0, 0)", x.by(0, 0), SumBounds.UNKNOWN);
        Checks.due("new: rack(0, 0)", x.rack(0, 0), SumBounds.UNKNOWN);
        Checks.due("new: racked(0, 0)", x.racked(0, 0), SumBounds.NONE);
        Checks.due("new: see(0, 0, true)", x.see(0, 0, true), SumBounds.UNKNOWN);
        Checks.due("new: image()", x.image(), SumBounds.STATE);
        Checks.due("new: restore()", x.restore(), SumBounds.STATE);
    }

    private static void letters() {
        SumBounds x = new SumBounds();
        Checks.refused(x, "letter(0)", () -> x.letter(0), SumBounds.OUTSIDE);
        Checks.refused(x, "letter(-1)", () -> x.letter(-1), SumBounds.OUTSIDE);
        Checks.refused(x, "letter(127)", () -> x.letter(127), SumBounds.OUTSIDE);
        Checks.refused(x, "letter(least)", () -> x.letter(Integer.MIN_VALUE), SumBounds.OUTSIDE);
        Checks.due("letter(1)", x.letter(1), 1);
        Checks.due("letter(126)", x.letter(126), 2);
        for (int i = 3; i <= 36; i++) Checks.due("letter " + i, x.letter('t'), i);
        Checks.refused(x, "letter 37", () -> x.letter('t'), SumBounds.FULL);
        Checks.refused(x, "letter 37 outside", () -> x.letter(0), SumBounds.OUTSIDE);
        Checks.due("count(8)", x.count(8), 36);
        Checks.due("blank()", x.blank(), 36);
        Checks.due("blank() again", x.blank(), 0);
        Checks.due("count(8) behind blank", x.count(8), 0);
        Checks.due("letter behind blank", x.letter('f'), 1);
    }

    private static void fault(String text, int want) {
        SumBounds x = new SumBounds();
        Checks.write(x, text);
        Checks.due("fault() of " + text, x.fault(), want);
        Checks.due("fault() keeps the page", x.count(8), text.length());
    }

    private static void faults() {
        fault("", 0);
        fault("x", 0);
        fault(",", 0);
        fault("T", 0);
        fault("t", 1);
        fault("t6", 1);
        fault("t05+", 4);
        fault("t06+", 2);
        fault("t05*", 3);
        fault("t055", 3);
        fault("t05-x", 4);
        fault("t05-99", 5);
        fault("t05-9,", 6);
        fault("t05-9,,", 6);
        fault("s3", 1);
        fault("s25+9", 5);
        fault("s26+9", 2);
        fault("s2+", 2);
        fault("f2", 2);
        fault("f3", 1);
        fault("f2+", 2);
        fault("a2+9", 4);
        fault("a3", 1);
        fault("a22", 2);
        fault("w0", 0);
        fault("f0,w", 4);
        fault("f0,w0", 5);
        fault("f0,w1", 4);
        fault("f0,f1,w1", 8);
        fault("f0,f1,w2", 7);
        fault("f0,w0,w", 6);
        fault("f0,w0,f1,w2", 11);
        fault("f0,w0,f1,w1", 10);
        fault("f0,w0,f1,w0", 10);
        fault("f0,w0,f1,w3", 10);
        fault("f0,f0,f0,f0,f0,f0", 17);
        fault("f0,f0,f0,f0,f0,f0,", 17);
        fault("f0,f0,f0,f0,f0,w4", 17);
        fault("f0,f0,f0,f0,f0,w5", 16);
        fault("t00+0,t00+0,t00+0,t00+0,t00+0,t00+0", 35);
        fault("t00+0,t00+0,t00+0,t00+0,t00+0,t00+0t", 35);
    }

    private static void programs() {
        SumBounds x = Checks.of("f0,f0,f0,f0,f0,f0");
        Checks.due("the page behind program()", x.count(8), 0);
        Checks.due("count(9)", x.count(9), 1);
        Checks.due("count(0)", x.count(0), 6);
        Checks.refused(x, "program() of nothing", x::program, SumBounds.STATE);
    }

    private static void programsThatAreNone() {
        String[] none = {"t", "t05+", "f0,", "f0,w", "f0,w1", "w0", "f3", "f0,f0,f0,f0,f0,f0,", "f0f1"};
        for (String text : none) {
            SumBounds x = Checks.of("a1-3,w0");
            Checks.write(x, text);
            Checks.refused(x, "program() of " + text, x::program, SumBounds.STATE);
            Checks.due("letters of " + text, x.count(8), text.length());
        }
    }

    private static void anotherProgram() {
        SumBounds x = Checks.of("t00+0,f1");
        x.see(0, 0, true);
        x.rack(0, 0);
        x.image();
        Checks.write(x, "a1-3,f0,w1");
        Checks.due("program() again", x.program(), 3);
        Checks.due("count(9) again", x.count(9), 2);
        Checks.due("SEEN is gone", x.count(7), 0);
        Checks.due("RACKS are empty", x.count(6), 0);
        Checks.due("no IMAGE of this one", x.restore(), SumBounds.STATE);
        Checks.due("the new KIND", x.step(0, 0), 3);
    }

    private static void told(SumBounds x, int step, int... want) {
        for (int what = 0; what < want.length; what++) {
            Checks.due("step(" + step + ", " + what + ")", x.step(step, what), want[what]);
        }
    }

    private static void stepsTold() {
        SumBounds x = Checks.of("t50-9,s13+7,f2,a0-0,w1");
        told(x, 0, 0, 5, 0, 91);
        told(x, 1, 1, 1, 3, 107);
        told(x, 2, 2, 2, -1, -1);
        told(x, 3, 3, 0, -1, 100);
        told(x, 4, 4, 1, -1, -1);
        Checks.refused(x, "step(5, 0)", () -> x.step(5, 0), SumBounds.UNKNOWN);
        Checks.refused(x, "step(-1, 9)", () -> x.step(-1, 9), SumBounds.UNKNOWN);
        Checks.refused(x, "step(0, 9)", () -> x.step(0, 9), SumBounds.OUTSIDE);
        Checks.refused(x, "step(0, -1)", () -> x.step(0, -1), SumBounds.OUTSIDE);
    }

    private static void deadKillsIdle() {
        SumBounds x = Checks.of("f0,t01+0,t01-1,f1,t00+0");
        int[] dead = {0, 0, 0, 1, 1};
        int[] kills = {0, 0, 1, 0, 0};
        int[] idle = {1, 1, 0, 0, 0};
        for (int i = 0; i < 5; i++) {
            Checks.due("DEAD of " + i, x.step(i, 4), dead[i]);
            Checks.due("KILLS of " + i, x.step(i, 5), kills[i]);
            Checks.due("IDLE of " + i, x.step(i, 6), idle[i]);
        }
        SumBounds loop = Checks.of("f0,w0");
        Checks.due("IDLE of a LOOP", loop.step(1, 6), 0);
        Checks.due("IDLE ahead of it", loop.step(0, 6), 1);
        SumBounds back = Checks.of("t01-1,w0");
        Checks.due("DEAD of a LOOP", back.step(1, 4), 1);
        Checks.due("KILLS of a LOOP", back.step(1, 5), 0);
        Checks.due("behind a LOOP that no POINT comes to", back.points(2), 4913);
    }

    private static void casts() {
        SumBounds x = Checks.of("t00+0,s00+0,f0,a0+0,w0");
        int[][] such = {{1, 0, 0, 0, 0}, {1, 1, 0, 0, 0}, {1, 0, 1, 0, 0}, {1, 1, 0, 1, 0}, {1, 0, 0, 0, 1}};
        for (int step = 0; step < 5; step++) {
            for (int kind = 0; kind < 5; kind++) {
                int want = such[step][kind] == 1 ? step : SumBounds.NONE;
                Checks.due("as(" + step + ", " + kind + ")", x.as(step, kind), want);
            }
        }
        Checks.refused(x, "as(5, 5)", () -> x.as(5, 5), SumBounds.UNKNOWN);
        Checks.refused(x, "as(-1, 0)", () -> x.as(-1, 0), SumBounds.UNKNOWN);
        Checks.refused(x, "as(0, 5)", () -> x.as(0, 5), SumBounds.OUTSIDE);
        Checks.refused(x, "as(0, -1)", () -> x.as(0, -1), SumBounds.OUTSIDE);
    }
}
