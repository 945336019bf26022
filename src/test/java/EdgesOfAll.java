import java.util.function.Supplier;

/** Promises 21 to 24: image, restore, count, digest; and the document's words on images and refusals. */
final class EdgesOfAll {
    private static final int LEAST = Integer.MIN_VALUE, GREATEST = Integer.MAX_VALUE;

    private final Sentences sentences;

    EdgesOfAll(Sentences sentences) {
        this.sentences = sentences;
    }

    void all() {
        whatImagesKeep();
        refusals();
        images();
        restores();
        restoreRefusals();
        counts();
        countsOfLimits();
        digests();
    }

    private void whatImagesKeep() {
        sentences.says("Terms", "An IMAGE keeps the STEPS, SEEN (RACKS are empty then).");
        SumBounds x = Checks.of("t00+1,a0+1,w1");
        x.see(2, 3, true);
        long before = x.digest();
        x.image();
        x.see(0, 0, true);
        x.take(2);
        x.by(1, 3);
        x.put(0, 2, 2, 0, 0);
        x.rack(0, 0);
        x.restore();
        Checks.due("STEPS and SEEN are as they were", x.digest(), before);
        Checks.due("RACKS", x.count(6), 0);
        Checks.due("the SORTS", x.step(2, 7), 0b10000);
        Checks.due("the ROUNDS", x.count(2), 1);
        SumBounds seen = Checks.of("f0,f1,f2");
        seen.see(0, 0, false);
        seen.see(2, 3, true);
        seen.image();
        seen.forget();
        for (int i = 0; i < 6; i++) seen.see(1, 3, false);
        seen.restore();
        Checks.due("what is SEEN, of which STEPS", seen.count(7), 2);
        Checks.due("of the first one", seen.step(0, 7), 0b00100);
        Checks.due("nothing of the second one", seen.step(1, 7), 31);
        Checks.due("of the third one", seen.step(2, 7), 0b10000);
        SumBounds racked = Checks.of("f0");
        racked.rack(0, 0);
        racked.image();
        racked.restore();
        Checks.due("STEPS that lay on RACKS then", racked.count(6), 0);
    }

    /** The order of each call's refusals is told with each call; here it is one beside the other. */
    private void refusals() {
        sentences.says("Terms", "Refusals, of several the first as told by each call: UNKNOWN (a number names"
                + " nothing), OUTSIDE (it is not as told), STATE (as told), FULL; they change nothing.");
        Supplier<SumBounds> full = Portrait::busyAndFull;
        Portrait.keeps(full, "put: UNKNOWN ahead of OUTSIDE", x -> x.put(7, 4, 0, 0, 0), SumBounds.UNKNOWN);
        Portrait.keeps(full, "put: OUTSIDE ahead of FULL", x -> x.put(6, 4, 0, 0, 0), SumBounds.OUTSIDE);
        Portrait.keeps(full, "put: FULL", x -> x.put(6, 3, 0, 0, 0), SumBounds.FULL);
        Supplier<SumBounds> none = SumBounds::new;
        Portrait.keeps(none, "put: UNKNOWN ahead of STATE", x -> x.put(1, 3, 0, 0, 0), SumBounds.UNKNOWN);
        Portrait.keeps(none, "put: OUTSIDE ahead of STATE", x -> x.put(0, 3, 3, 0, 0), SumBounds.OUTSIDE);
        Portrait.keeps(none, "step: UNKNOWN ahead of OUTSIDE", x -> x.step(0, 9), SumBounds.UNKNOWN);
        Portrait.keeps(none, "as: UNKNOWN ahead of OUTSIDE", x -> x.as(0, 9), SumBounds.UNKNOWN);
        Portrait.keeps(none, "bound: UNKNOWN ahead of OUTSIDE", x -> x.bound(0, 9, 9), SumBounds.UNKNOWN);
        Portrait.keeps(none, "has: UNKNOWN ahead of OUTSIDE", x -> x.has(0, 9, 9, 9), SumBounds.UNKNOWN);
        Portrait.keeps(none, "by: UNKNOWN ahead of OUTSIDE", x -> x.by(0, 99), SumBounds.UNKNOWN);
        Portrait.keeps(full, "by: OUTSIDE ahead of STATE", x -> x.by(2, 99), SumBounds.OUTSIDE);
        Portrait.keeps(none, "rack: UNKNOWN ahead of OUTSIDE", x -> x.rack(0, 9), SumBounds.UNKNOWN);
        Portrait.keeps(none, "see: UNKNOWN ahead of OUTSIDE", x -> x.see(0, 9, true), SumBounds.UNKNOWN);
        Supplier<SumBounds> one = () -> Checks.of("f0");
        Portrait.keeps(one, "take: UNKNOWN ahead of STATE", x -> x.take(1), SumBounds.UNKNOWN);
        Checks.due("NONE", SumBounds.NONE, -1);
        Checks.due("UNKNOWN", SumBounds.UNKNOWN, -101);
        Checks.due("OUTSIDE", SumBounds.OUTSIDE, -102);
        Checks.due("STATE", SumBounds.STATE, -103);
        Checks.due("FULL", SumBounds.FULL, -104);
    }

    private void images() {
        sentences.says("Promise 21", "An IMAGE is kept (one; the latest): how many STEPS.");
        SumBounds x = Checks.of("f0,f1,f2,f0,f1,f2");
        for (int steps = 6; steps >= 1; steps--) {
            Checks.due("image() of " + steps, x.image(), steps);
            if (steps > 1) x.take(0);
        }
        x.put(0, 2, 0, 0, 0);
        Checks.due("the latest one", x.restore(), 1);
        Checks.due("and that one alone", x.restore(), 1);
        long before = Portrait.busy().digest();
        SumBounds busy = Portrait.busy();
        Checks.due("image()", busy.image(), 5);
        Checks.due("nothing else changes by it", busy.digest(), before);
        sentences.says("Promise 21", "STATE: no PROGRAM.");
        Portrait.keeps(SumBounds::new, "image()", SumBounds::image, SumBounds.STATE);
        Supplier<SumBounds> letters = () -> {
            SumBounds page = new SumBounds();
            Checks.write(page, "f0");
            return page;
        };
        Portrait.keeps(letters, "image() of letters alone", SumBounds::image, SumBounds.STATE);
    }

    private void restores() {
        sentences.says("Promise 22", "It goes on from the IMAGE: how many STEPS.");
        SumBounds x = Portrait.busy();
        Checks.due("restore()", x.restore(), 5);
        Checks.due("the number behind the sign", x.step(0, 3), 103);
        Checks.due("what is SEEN", x.count(7), 1);
        Checks.due("THE PAGE stays", x.count(8), 5);
        Checks.due("how often was read stays", x.count(9), 1);
        x.take(4);
        Checks.due("changed behind it, and back again", x.restore(), 5);
        x.put(0, 2, 0, 0, 0);
        Checks.due("once more", x.restore(), 5);
        Checks.due("the same one", x.step(0, 0), 0);
    }

    private void restoreRefusals() {
        sentences.says("Promise 22", "STATE: none was kept, or there is another PROGRAM since.");
        Portrait.keeps(SumBounds::new, "restore() of a new one", SumBounds::restore, SumBounds.STATE);
        Supplier<SumBounds> notKept = () -> {
            SumBounds x = Checks.of("f0,f1");
            x.rack(0, 0);
            x.see(0, 0, true);
            return x;
        };
        Portrait.keeps(notKept, "restore() of none", SumBounds::restore, SumBounds.STATE);
        Supplier<SumBounds> another = () -> {
            SumBounds x = Checks.of("f0,f1");
            x.image();
            Checks.write(x, "f0,f1");
            x.program();
            x.rack(0, 0);
            x.see(0, 0, true);
            return x;
        };
        Portrait.keeps(another, "restore() of another one, by the same text", SumBounds::restore, SumBounds.STATE);
        SumBounds since = another.get();
        since.image();
        Checks.due("an IMAGE of that one", since.restore(), 2);
        SumBounds refused = Portrait.busy();
        refused.blank();
        Checks.write(refused, "f0,");
        refused.program();
        Checks.due("what was refused is no other PROGRAM", refused.restore(), 5);
    }

    private static void counts(SumBounds x, int... want) {
        for (int what = 0; what < 10; what++) Checks.due("count(" + what + ")", x.count(what), want[what]);
    }

    private void counts() {
        sentences.says("Promise 23", "How many: 0 STEPS, 1 LOOPS, 2 ROUNDS, 3 STEPS that are DEAD, 4 that are IDLE,");
        counts(Portrait.busy(), 5, 1, 1, 0, 2, 16 * 289, 4, 2, 5, 1);
        counts(Checks.of("f0,t01-1,w0,t01-1,f0,w4"), 6, 2, 0, 3, 1, 0, 0, 0, 0, 1);
        counts(Checks.of("a0+0"), 1, 0, 0, 0, 1, 4913, 0, 0, 0, 1);
        sentences.says("Promise 23", "5 POINTS behind the last STEP (0: no PROGRAM),");
        Checks.due("of no PROGRAM", new SumBounds().count(5), 0);
        Checks.due("of one", Checks.of("t00-9").count(5), 4 * 289);
        Checks.due("of none that are left", Checks.of("t01-1").count(5), 0);
        sentences.says("Promise 23", "6 STEPS on all RACKS, 7 what is SEEN, 8 letters of THE PAGE,"
                + " 9 how often a PROGRAM was read.");
        SumBounds x = new SumBounds();
        for (int read = 1; read <= 3; read++) {
            Checks.write(x, "f0");
            Checks.due("letters", x.count(8), 2);
            x.program();
            Checks.due("how often", x.count(9), read);
        }
        x.program();
        x.image();
        x.restore();
        Checks.due("neither what is refused nor restore() is a reading", x.count(9), 3);
        counts(x, 1, 0, 0, 0, 1, 4913, 0, 0, 0, 3);
    }

    private void countsOfLimits() {
        sentences.says("Promise 23", "OUTSIDE.");
        for (int what : new int[] {-1, 10, LEAST, GREATEST}) {
            String call = "count(" + what + ")";
            Portrait.keeps(Portrait::busy, call, x -> x.count(what), SumBounds.OUTSIDE);
            Portrait.keeps(SumBounds::new, call, x -> x.count(what), SumBounds.OUTSIDE);
        }
    }

    private static long fold(long... told) {
        long h = 1447;
        for (long number : told) h = 31 * h + number;
        return h;
    }

    private void digests() {
        sentences.says("Promise 24", "h is 1447, then for each of these numbers, in order, 31 times h, and it (as longs,"
                + " wrapping): of each STEP what step() tells for 0 to 8;");
        long half = Double.doubleToLongBits(9 * 289 / 4913.0);
        long all = Double.doubleToLongBits(1.0);
        SumBounds x = Checks.of("t55-1,a2-0");
        x.see(1, 1, false);
        x.rack(1, 3);
        x.rack(1, 1);
        x.rack(0, 0);
        Checks.write(x, "~");
        long share = Double.doubleToLongBits(8 * 289 / 4913.0);
        Checks.due("digest()", x.digest(), fold(
                0, 5, 5, 99, 0, 0, 0, 31, 1, 3, 2, -1, 100, 0, 0, 1, 17, 2,
                4913, 116, 116, 116, all, 2312, 116, 116, 98, share, 2312, 116, 116, 98, share,
                0, -1, -1, 1, -1, -1, -1, -1, -1, 1, -1, -1, -1, -1, -1,
                126,
                2, 0, 0, 0, 1, 2312, 3, 1, 1, 1));
        sentences.says("Promise 24", "of each STEP, and behind the last one, points(), bound() of 0 and 2, of 1 and 4,"
                + " of 5 and 5, share();");
        Checks.due("without a PROGRAM there is no last one", new SumBounds().digest(), fold(
                -1, -1, -1, -1, -1, -1, -1, -1, -1, -1, -1, -1, -1, -1, -1, 0, 0, 0, 0, 0, 0, 0, 0, 0, 0));
        Checks.due("of a SHAPE without POINTS", Checks.of("t01-1").digest(), fold(
                0, 0, 1, 99, 0, 1, 0, 31, 1, 4913, 116, 116, 116, all, 0, -1, -1, -1, 0,
                -1, -1, -1, -1, -1, -1, -1, -1, -1, -1, -1, -1, -1, -1, -1, 1, 0, 0, 0, 0, 0, 0, 0, 0, 1));
        int some = 78 * 17;
        Checks.due("X2 less X0 no more than -5", Checks.of("t14-5").digest(), fold(
                0, 1, 4, 95, 0, 0, 0, 31, 1,
                4913, 116, 116, 116, all, some, 116, 95, 116, Double.doubleToLongBits(some / 4913.0),
                -1, -1, -1, -1, -1, -1, -1, -1, -1, -1, -1, -1, -1, -1, -1, 1, 0, 0, 0, 0, some, 0, 0, 0, 1));
        Checks.due("X0 and X1 no more than -5", Checks.of("t02-5").digest(), fold(
                0, 0, 2, 95, 0, 0, 0, 31, 1,
                4913, 116, 116, 116, all, some, 95, 116, 116, Double.doubleToLongBits(some / 4913.0),
                -1, -1, -1, -1, -1, -1, -1, -1, -1, -1, -1, -1, -1, -1, -1, 1, 0, 0, 0, 0, some, 0, 0, 0, 1));
        sentences.says("Promise 24", "of each KIND racked() for 0 to 2; letters of THE PAGE;"
                + " what count() tells for 0 to 9.");
        SumBounds lost = Checks.of("a0-8");
        for (int n = 0; n < 3; n++) lost.rack(0, n == 2 ? 3 : n);
        Checks.write(lost, "w,1");
        Checks.due("RACKS, letters and counts", lost.digest(), fold(
                3, 0, -1, 92, 0, 0, 0, 31, 1,
                4913, 116, 116, 116, all, 9 * 289, 108, 116, 116, half,
                0, -1, -1, 0, -1, -1, -1, -1, -1, 0, -1, -1, -1, -1, -1,
                'w', ',', '1',
                1, 0, 0, 0, 0, 9 * 289, 3, 0, 3, 1));
        Portrait.keeps(Portrait::busy, "digest() itself", SumBounds::digest, Portrait.busy().digest());
    }
}
