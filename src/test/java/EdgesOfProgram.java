import java.util.function.Supplier;

/** Promises 1 to 7: a new object, letter, blank, fault, program, step, as. */
final class EdgesOfProgram {
    private static final int LEAST = Integer.MIN_VALUE, GREATEST = Integer.MAX_VALUE;

    private final Sentences sentences;

    EdgesOfProgram(Sentences sentences) {
        this.sentences = sentences;
    }

    void all() {
        newObject();
        letters();
        letterRefusals();
        blanks();
        faults();
        reads();
        anotherIsGone();
        readsNone();
        stepsTold();
        stepRefusals();
        casts();
        castRefusals();
    }

    private void newObject() {
        sentences.says("Promise 1", "No PROGRAM.");
        for (int what = 0; what < 10; what++) {
            Checks.due("count(" + what + ")", new SumBounds().count(what), 0);
        }
        Supplier<SumBounds> maker = SumBounds::new;
        Portrait.keeps(maker, "program()", SumBounds::program, SumBounds.STATE);
        Portrait.keeps(maker, "step(0, 0)", x -> x.step(0, 0), SumBounds.UNKNOWN);
        Portrait.keeps(maker, "as(0, 0)", x -> x.as(0, 0), SumBounds.UNKNOWN);
        Portrait.keeps(maker, "bound(0, 0, 0)", x -> x.bound(0, 0, 0), SumBounds.UNKNOWN);
        Portrait.keeps(maker, "points(0)", x -> x.points(0), SumBounds.UNKNOWN);
        Portrait.keeps(maker, "has(0, 0, 0, 0)", x -> x.has(0, 0, 0, 0), SumBounds.UNKNOWN);
        Portrait.keeps(maker, "share(0)", x -> x.share(0), SumBounds.UNKNOWN);
        Portrait.keeps(maker, "compare(0, 0)", x -> x.compare(0, 0), SumBounds.UNKNOWN);
        Portrait.keeps(maker, "take(0)", x -> x.take(0), SumBounds.UNKNOWN);
        Portrait.keeps(maker, "by(0, 0)", x -> x.by(0, 0), SumBounds.UNKNOWN);
        Portrait.keeps(maker, "rack(0, 0)", x -> x.rack(0, 0), SumBounds.UNKNOWN);
        Portrait.keeps(maker, "see(0, 0, true)", x -> x.see(0, 0, true), SumBounds.UNKNOWN);
        Portrait.keeps(maker, "put(0, 0, 0, 0, 0)", x -> x.put(0, 0, 0, 0, 0), SumBounds.STATE);
        Portrait.keeps(maker, "image()", SumBounds::image, SumBounds.STATE);
        Portrait.keeps(maker, "restore()", SumBounds::restore, SumBounds.STATE);
        Portrait.keeps(maker, "blank()", SumBounds::blank, 0);
        Portrait.keeps(maker, "fault()", SumBounds::fault, 0);
        Portrait.keeps(maker, "forget()", SumBounds::forget, 0);
        Portrait.keeps(maker, "racked(4, 2)", x -> x.racked(4, 2), SumBounds.NONE);
    }

    /** A page of that many letters, of which no program has any. */
    private static SumBounds page(int letters) {
        SumBounds x = new SumBounds();
        for (int i = 0; i < letters; i++) x.letter('z');
        return x;
    }

    private void letters() {
        sentences.says("Promise 2", "A letter comes behind THE PAGE, by its code: how many THE PAGE has.");
        SumBounds x = new SumBounds();
        String text = "t05+7,f1";
        for (int i = 0; i < text.length(); i++) {
            Checks.due("letter " + i, x.letter(text.charAt(i)), i + 1);
            Checks.due("letters", x.count(8), i + 1);
        }
        Checks.due("program()", x.program(), 2);
        Checks.due("in their order", x.step(0, 2), 5);
        Checks.due("by their codes", x.step(0, 3), 107);
        Checks.due("behind an empty PAGE again", x.letter('f'), 1);
    }

    private void letterRefusals() {
        sentences.says("Promise 2", "OUTSIDE: code (1 to 126);");
        for (int code : new int[] {0, -1, 127, 128, 372, LEAST, GREATEST}) {
            Portrait.keeps(SumBounds::new, "letter(" + code + ")", x -> x.letter(code), SumBounds.OUTSIDE);
            Portrait.keeps(Portrait::busy, "letter(" + code + ")", x -> x.letter(code), SumBounds.OUTSIDE);
        }
        for (int code = 1; code <= 126; code++) {
            Checks.due("letter(" + code + ")", new SumBounds().letter(code), 1);
        }
        sentences.says("Promise 2", "FULL: above 36.");
        Checks.due("the 36th", page(35).letter(126), 36);
        Portrait.keeps(() -> page(36), "the 37th", x -> x.letter('t'), SumBounds.FULL);
        Portrait.keeps(() -> page(37), "the 38th", x -> x.letter('t'), SumBounds.FULL);
        Portrait.keeps(() -> page(36), "a wrong 37th", x -> x.letter(127), SumBounds.OUTSIDE);
        SumBounds blank = page(36);
        blank.blank();
        Checks.due("behind blank()", blank.letter('t'), 1);
        String longest = "t00+0,t00+0,t00+0,t00+0,t00+0,t00+0";
        Checks.due("the longest PROGRAM has room", longest.length(), 35);
        Checks.due("it is read", Checks.of(longest).count(0), 6);
    }

    private void blanks() {
        sentences.says("Promise 3", "THE PAGE is empty: how many letters it had.");
        for (int letters : new int[] {0, 1, 35, 36}) {
            SumBounds x = page(letters);
            Checks.due("blank() of " + letters, x.blank(), letters);
            Checks.due("letters then", x.count(8), 0);
            Checks.due("as a new one", x.digest(), new SumBounds().digest());
            Checks.due("blank() again", x.blank(), 0);
        }
        SumBounds x = Checks.of("f0");
        Checks.due("none behind program()", x.blank(), 0);
        Checks.due("THE PROGRAM stays", x.count(0), 1);
    }

    private static void fault(String text, int want) {
        SumBounds x = new SumBounds();
        Checks.write(x, text);
        Checks.due("fault() of " + text, x.fault(), want);
        Checks.due("the same again", x.fault(), want);
        Checks.due("THE PAGE stays", x.count(8), text.length());
    }

    private void faults() {
        sentences.says("Promise 4", "The place (from 0) of the first letter of THE PAGE that no PROGRAM has there,"
                + " behind those ahead of it;");
        fault("z", 0);
        fault(",f0", 0);
        fault("T00+0", 0);
        fault("f0 ", 2);
        fault("f00", 2);
        fault("f0,,f9", 3);
        fault("z,f9", 0);
        fault("t00+0,s30+0,f9", 7);
        fault("f0,f1,f2,f0,f1,f2,", 17);
        fault("t00+0,t00+0,t00+0,t00+0,t00+0,t00+0,", 35);
        fault("zzzzzzzzzzzzzzzzzzzzzzzzzzzzzzzzzzzz", 0);
        sentences.says("Promise 4", "how many letters it has, if there is none.");
        fault("", 0);
        fault("t", 1);
        fault("f0,", 3);
        fault("f0,w", 4);
        fault("f0,w0", 5);
        fault("t00+0,t00+0,t00+0,t00+0,t00+0,t00+0", 35);
        sentences.says("Promise 4",
                "(A \"w\" as the first STEP, or right behind another LOOP, is wrong itself.)");
        fault("w", 0);
        fault("w0", 0);
        fault("f0,w0,w", 6);
        fault("f0,f1,w0,w2", 9);
        fault("f0,w0,f1,w", 10);
        fault("f0,w0,f1,w2", 11);
    }

    private void reads() {
        sentences.says("Promise 5", "THE PAGE is read as THE PROGRAM");
        SumBounds x = Checks.of("t50-9,s13+7,f2,a0-0,w3");
        int[][] want = {{0, 5, 0, 91}, {1, 1, 3, 107}, {2, 2, -1, -1}, {3, 0, -1, 100}, {4, 3, -1, -1}};
        for (int step = 0; step < 5; step++) {
            for (int what = 0; what < 4; what++) {
                Checks.due("step(" + step + ", " + what + ")", x.step(step, what), want[step][what]);
            }
        }
        sentences.says("Promise 5", "how many STEPS; THE PAGE is empty then.");
        SumBounds six = new SumBounds();
        Checks.write(six, "f0,f1,f2,f0,f1,f2");
        Checks.due("program() of six", six.program(), 6);
        Checks.due("letters", six.count(8), 0);
        Checks.due("nothing to read any more", six.program(), SumBounds.STATE);
        Checks.write(six, "a0+0");
        Checks.due("program() of one", six.program(), 1);
    }

    private void anotherIsGone() {
        sentences.says("Promise 5", "(another one is gone, with all that was):");
        SumBounds x = Portrait.busy();
        Checks.due("program()", x.program(), 2);
        SumBounds fresh = Checks.of("f0");
        Checks.write(fresh, "f1,w0");
        fresh.program();
        Checks.due("as if nothing was but two readings", x.digest(), fresh.digest());
        Checks.due("STEPS", x.count(0), 2);
        Checks.due("RACKS", x.count(6), 0);
        Checks.due("SEEN", x.count(7), 0);
        Checks.due("SORTS", x.step(0, 7), 31);
        Checks.due("the IMAGE", x.restore(), SumBounds.STATE);
        SumBounds shorter = Checks.of("t01-1,f0");
        Checks.write(shorter, "f0");
        shorter.program();
        Checks.due("what no POINT came to", shorter.points(1), 4913);
    }

    private void readsNone() {
        sentences.says("Promise 5", "STATE: it is none.");
        String[] none = {
            "t", "t0", "t05", "t05+", "s0", "f", "a0", "a0-", "f0,", "f0,w", "w0", "f0,w1", "f3", "f0f1",
            "f0,w0,w0", "f0,w0,f0,w1", "f0,f0,f0,f0,f0,f0,", "f0,f0,f0,f0,f0,f0,f0"};
        for (String text : none) {
            Supplier<SumBounds> maker = () -> {
                SumBounds x = Portrait.busy();
                x.blank();
                Checks.write(x, text);
                return x;
            };
            Portrait.keeps(maker, "program() of " + text, SumBounds::program, SumBounds.STATE);
            Checks.due("letters of " + text, maker.get().count(8), text.length());
        }
        Portrait.keeps(() -> Checks.of("f0"), "program() of nothing", SumBounds::program, SumBounds.STATE);
    }

    private void told(SumBounds x, int what, int... want) {
        for (int step = 0; step < want.length; step++) {
            Checks.due("step(" + step + ", " + what + ")", x.step(step, what), want[step]);
        }
    }

    private void stepsTold() {
        sentences.says("Promise 6", "Of a STEP: what = 0 KIND, 1 the first digit,");
        SumBounds x = Checks.of("t53-9,s14+9,f2,a0-1,w3");
        told(x, 0, 0, 1, 2, 3, 4);
        told(x, 1, 5, 1, 2, 0, 3);
        sentences.says("Promise 6", "2 the second one (NONE: it has none),");
        told(x, 2, 3, 4, SumBounds.NONE, SumBounds.NONE, SumBounds.NONE);
        sentences.says("Promise 6", "3 the number behind the sign (told as 100 more; NONE: it has none),");
        told(x, 3, 91, 109, SumBounds.NONE, 99, SumBounds.NONE);
        told(Checks.of("t00-0,t00+0,a0+9,s00-9"), 3, 100, 100, 109, 91);
        sentences.says("Promise 6", "4 DEAD (1, 0), 5 KILLS (1, 0),");
        SumBounds killed = Checks.of("f0,t01-1,f0,w2");
        told(killed, 4, 0, 0, 1, 1);
        told(killed, 5, 0, 1, 0, 0);
        sentences.says("Promise 6", "6 IDLE (1, 0; 0 for a LOOP),");
        SumBounds loop = Checks.of("f0,w0");
        Checks.due("alike ahead of the LOOP and behind it", loop.compare(1, 2), 0);
        told(loop, 6, 1, 0);
        Checks.due("nor is it counted", loop.count(4), 1);
        sentences.says("Promise 6", "7 SORTS, as bits, 8 ASK (NONE).");
        told(loop, 7, 31, 31);
        told(loop, 8, 1, 1);
        loop.see(1, 3, true);
        told(loop, 7, 31, 16);
        told(loop, 8, 1, 0);
        loop.see(1, 3, false);
        told(loop, 7, 31, 0);
        told(loop, 8, 1, SumBounds.NONE);
    }

    private void stepRefusals() {
        sentences.says("Promise 6", "UNKNOWN; OUTSIDE.");
        for (int step : new int[] {-1, 5, 6, 7, LEAST, GREATEST}) {
            Portrait.keeps(Portrait::busy, "step(" + step + ", 0)", x -> x.step(step, 0), SumBounds.UNKNOWN);
            Portrait.keeps(Portrait::busy, "step(" + step + ", 9)", x -> x.step(step, 9), SumBounds.UNKNOWN);
        }
        Portrait.keeps(Portrait::busyAndFull, "step(6, 0)", x -> x.step(6, 0), SumBounds.UNKNOWN);
        for (int what : new int[] {-1, 9, LEAST, GREATEST}) {
            Portrait.keeps(Portrait::busy, "step(0, " + what + ")", x -> x.step(0, what), SumBounds.OUTSIDE);
        }
    }

    private void casts() {
        sentences.says("Promise 7", "A STEP taken as a KIND: its number; NONE: it is none such (the cast fails).");
        SumBounds x = Checks.of("t00+0,s00+0,f0,a0+0,w0");
        int[] kinds = {0b00001, 0b00011, 0b00101, 0b01011, 0b10001};
        for (int step = 0; step < 5; step++) {
            for (int kind = 0; kind < 5; kind++) {
                int want = (kinds[step] >> kind & 1) == 1 ? step : SumBounds.NONE;
                Checks.due("as(" + step + ", " + kind + ")", x.as(step, kind), want);
            }
        }
    }

    private void castRefusals() {
        sentences.says("Promise 7", "UNKNOWN; OUTSIDE.");
        for (int step : new int[] {-1, 5, LEAST, GREATEST}) {
            Portrait.keeps(Portrait::busy, "as(" + step + ", 0)", x -> x.as(step, 0), SumBounds.UNKNOWN);
            Portrait.keeps(Portrait::busy, "as(" + step + ", 5)", x -> x.as(step, 5), SumBounds.UNKNOWN);
        }
        for (int kind : new int[] {-1, 5, LEAST, GREATEST}) {
            Portrait.keeps(Portrait::busy, "as(0, " + kind + ")", x -> x.as(0, kind), SumBounds.OUTSIDE);
        }
    }
}
