import java.util.function.Supplier;

/** Promises 18 to 20: see, forget, drawn; and the document's terms of what is seen and of draws. */
final class EdgesOfSeen {
    private static final int LEAST = Integer.MIN_VALUE, GREATEST = Integer.MAX_VALUE;
    private static final int[] YES = {0b11011, 0b01110, 0b10100, 0b10000};

    private final Sentences sentences;

    EdgesOfSeen(Sentences sentences) {
        this.sentences = sentences;
    }

    void all() {
        sixAtMost();
        sorts();
        asks();
        drawnPrograms();
        draws();
        sees();
        seeRefusals();
        forgets();
        drawn();
        drawnRefusals();
    }

    private static SumBounds seen(int times) {
        SumBounds x = Portrait.busy();
        x.forget();
        for (int i = 0; i < times; i++) x.see(i % 5, i % 4, i % 2 == 0);
        return x;
    }

    private void sixAtMost() {
        sentences.says("Terms", "SEEN (6 at most): of a STEP, of which it is not known of which KIND it is, whether it"
                + " could do so: 0 have fewer POINTS behind it, 1 change a number at some POINT, 2 have more POINTS"
                + " behind it, 3 come to be done twice by itself.");
        Checks.due("the sixth", seen(5).see(0, 0, true), 6);
        Portrait.keeps(() -> seen(6), "a seventh", x -> x.see(0, 0, true), SumBounds.FULL);
        SumBounds x = Checks.of("t00+0");
        x.see(0, 3, true);
        Checks.due("of whichever KIND it is", x.step(0, 7), 0b10000);
    }

    private void sorts() {
        sentences.says("Terms", "SORTS (KINDS 0 to 4) it can be of, so that all that is SEEN of it is so (0: all but"
                + " LOSE; 1: SET, LOSE, MOVE; 2: LOSE, LOOP; 3: LOOP): as bits.");
        for (int what = 0; what < 4; what++) {
            SumBounds x = Checks.of("f0,f1,f2");
            x.see(0, what, true);
            x.see(1, what, false);
            Checks.due("it could: " + what, x.step(0, 7), YES[what]);
            Checks.due("it could not: " + what, x.step(1, 7), 31 - YES[what]);
            Checks.due("nothing is SEEN of it", x.step(2, 7), 31);
            x.see(0, what, false);
            Checks.due("both: none is left", x.step(0, 7), 0);
        }
        SumBounds all = Checks.of("f0");
        all.see(0, 0, true);
        Checks.due("not LOSE", all.step(0, 7), 0b11011);
        all.see(0, 2, false);
        Checks.due("nor LOOP", all.step(0, 7), 0b01011);
        all.see(0, 1, false);
        Checks.due("a test", all.step(0, 7), 0b00001);
        all.see(0, 3, true);
        Checks.due("nothing", all.step(0, 7), 0);
    }

    private static void ask(int want, int... what) {
        SumBounds x = Checks.of("f0");
        for (int number : what) x.see(0, number % 10, number < 10);
        Checks.due("ASK behind " + what.length + " SEEN, SORTS " + x.step(0, 7), x.step(0, 8), want);
    }

    /** What was seen: a question that was answered by yes, 10 more if by no. */
    private void asks() {
        sentences.says("Terms", "ASK for a STEP: which of these (0 to 3) to ask next,"
                + " so that fewest of these are left at worst:");
        ask(1, 0);
        ask(2, 11);
        ask(1, 12);
        ask(1, 13, 0);
        sentences.says("Terms", "of like ones the least;");
        ask(1);
        ask(0, 1);
        ask(0, 2);
        ask(0, 13, 1);
        ask(0, 3);
        ask(0, 10);
        sentences.says("Terms", "none, if there are none.");
        ask(SumBounds.NONE, 3, 1);
        ask(SumBounds.NONE, 0, 10);
    }

    private static long behind(long seed, int draws) {
        long s = seed;
        for (int i = 0; i < draws; i++) s = (s * 1103515245L + 12345L) % 2147483648L;
        return s;
    }

    /** The points of a program of four tests, drawn and counted here by the document's words. */
    private static int pointsOf(long seed) {
        int[] drawn = new int[12];
        long s = seed;
        for (int i = 0; i < 12; i++) {
            s = behind(s, 1);
            drawn[i] = (int) (s / 65536 % (i % 3 == 2 ? 12 : 6));
        }
        int points = 0;
        for (int p = 0; p < 4913; p++) {
            int[] x = {p / 289 - 8, p / 17 % 17 - 8, p % 17 - 8};
            boolean left = true;
            for (int i = 0; i < 12; i += 3) {
                int sum = (drawn[i] % 2 == 0 ? 1 : -1) * x[drawn[i] / 2]
                        + (drawn[i + 1] % 2 == 0 ? 1 : -1) * x[drawn[i + 1] / 2];
                left &= sum <= drawn[i + 2] - 4;
            }
            points += left ? 1 : 0;
        }
        return points;
    }

    private void drawnPrograms() {
        sentences.says("Terms", "DRAWN by a SEED, as they would be: so many PROGRAMS of four tests, each of two SIGNED"
                + " ones by a DRAW of 6 each, and a number by a DRAW of 12, less 4: how many end with POINTS; how many"
                + " POINTS these have at the end, together.");
        SumBounds x = new SumBounds();
        int empty = 0;
        for (int seed = 0; seed < 40; seed++) {
            int together = 0;
            int ended = 0;
            for (int i = 0; i < 8; i++) {
                int points = pointsOf(behind(seed, 12 * i));
                together += points;
                ended += points > 0 ? 1 : 0;
            }
            empty += 8 - ended;
            Checks.due("how many of 8 by " + seed, x.drawn(8, seed, 0), ended);
            Checks.due("their POINTS by " + seed, x.drawn(8, seed, 1), together);
        }
        Checks.due("some of these end without POINTS", empty > 0 ? 1 : 0, 1);
    }

    private void draws() {
        sentences.says("Terms", "DRAWS: the next SEED each time: 1103515245 times it and 12345, its rest by 2 to the 31;"
                + " then that by 65536 (rounded down), its rest.");
        SumBounds x = new SumBounds();
        for (int seed : new int[] {0, 1, 2, 65535, 65536, 1 << 30, GREATEST - 1, GREATEST}) {
            for (int times = 1; times <= 8; times++) {
                String call = "the SEED behind " + times + " by " + seed;
                Checks.due(call, x.drawn(times, seed, 2), behind(seed, 12 * times));
            }
            int points = pointsOf(seed);
            Checks.due("POINTS by " + seed, x.drawn(1, seed, 1), points);
            Checks.due("with POINTS by " + seed, x.drawn(1, seed, 0), points > 0 ? 1 : 0);
        }
    }

    private void sees() {
        sentences.says("Promise 18", "It is SEEN: how much is.");
        SumBounds x = Checks.of("f0,f1");
        Checks.due("the first", x.see(0, 0, true), 1);
        Checks.due("the same again", x.see(0, 0, true), 2);
        Checks.due("the other way", x.see(0, 0, false), 3);
        Checks.due("of another STEP", x.see(1, 3, false), 4);
        Checks.due("count(7)", x.count(7), 4);
        x.put(2, 0, 0, 0, 0);
        Checks.due("it stays when a STEP is put", x.count(7), 4);
        x.by(2, 1);
        Checks.due("when it is changed", x.count(7), 4);
        x.take(2);
        Checks.due("when it is taken", x.count(7), 4);
        Checks.due("of the same number", x.step(1, 7), 0b01111);
    }

    private void seeRefusals() {
        sentences.says("Promise 18", "UNKNOWN: step;");
        for (int step : new int[] {-1, 5, 6, LEAST, GREATEST}) {
            Portrait.keeps(() -> seen(2), "see(" + step + ", 0)", x -> x.see(step, 0, true), SumBounds.UNKNOWN);
            Portrait.keeps(() -> seen(6), "see(" + step + ", 4)", x -> x.see(step, 4, true), SumBounds.UNKNOWN);
        }
        Portrait.keeps(SumBounds::new, "see(0, 0) of none", x -> x.see(0, 0, false), SumBounds.UNKNOWN);
        sentences.says("Promise 18", "OUTSIDE: what (0 to 3);");
        for (int what : new int[] {-1, 4, LEAST, GREATEST}) {
            Portrait.keeps(() -> seen(2), "see(0, " + what + ")", x -> x.see(0, what, true), SumBounds.OUTSIDE);
            Portrait.keeps(() -> seen(6), "see(4, " + what + ")", x -> x.see(4, what, false), SumBounds.OUTSIDE);
        }
        sentences.says("Promise 18", "FULL.");
        for (int what = 0; what < 4; what++) {
            int asked = what;
            Portrait.keeps(() -> seen(6), "a seventh: " + what, x -> x.see(4, asked, false), SumBounds.FULL);
        }
        SumBounds x = seen(6);
        x.forget();
        Checks.due("behind forget()", x.see(0, 0, true), 1);
    }

    private void forgets() {
        sentences.says("Promise 19", "Nothing is SEEN any more: how much was.");
        for (int times = 0; times <= 6; times++) {
            SumBounds x = seen(times);
            Checks.due("forget() of " + times, x.forget(), times);
            Checks.due("count(7) then", x.count(7), 0);
            for (int step = 0; step < 5; step++) Checks.due("SORTS then", x.step(step, 7), 31);
            Checks.due("forget() again", x.forget(), 0);
            Checks.due("the RACKS stay", x.count(6), 4);
        }
        Supplier<SumBounds> none = () -> seen(0);
        Portrait.keeps(none, "forget() of nothing", SumBounds::forget, 0);
    }

    private void drawn() {
        sentences.says("Promise 20", "DRAWN: what = 0 how many, 1 how many POINTS, 2 the SEED then.");
        int points = pointsOf(7);
        Portrait.keeps(Portrait::busy, "how many", x -> x.drawn(1, 7, 0), points > 0 ? 1 : 0);
        Portrait.keeps(Portrait::busy, "how many POINTS", x -> x.drawn(1, 7, 1), points);
        Portrait.keeps(Portrait::busy, "the SEED then", x -> x.drawn(1, 7, 2), behind(7, 12));
        Portrait.keeps(SumBounds::new, "without a PROGRAM", x -> x.drawn(1, 7, 1), points);
    }

    private void drawnRefusals() {
        sentences.says("Promise 20", "OUTSIDE: times (1 to 8), seed (0 at least), what.");
        for (int times : new int[] {0, -1, 9, LEAST, GREATEST}) {
            String call = "drawn(" + times + ", 0, 0)";
            Portrait.keeps(Portrait::busy, call, x -> x.drawn(times, 0, 0), SumBounds.OUTSIDE);
            Portrait.keeps(SumBounds::new, call, x -> x.drawn(times, 0, 2), SumBounds.OUTSIDE);
        }
        for (int seed : new int[] {-1, -2, LEAST}) {
            String call = "drawn(1, " + seed + ", 0)";
            Portrait.keeps(Portrait::busy, call, x -> x.drawn(1, seed, 0), SumBounds.OUTSIDE);
            Portrait.keeps(Portrait::busy, call, x -> x.drawn(8, seed, 2), SumBounds.OUTSIDE);
        }
        for (int what : new int[] {-1, 3, LEAST, GREATEST}) {
            Portrait.keeps(Portrait::busy, "drawn(1, 0, " + what + ")", x -> x.drawn(1, 0, what), SumBounds.OUTSIDE);
        }
        Portrait.keeps(Portrait::busy, "drawn(1, 0, 2)", x -> x.drawn(1, 0, 2), behind(0, 12));
        Portrait.keeps(Portrait::busy, "drawn(8, 0, 2)", x -> x.drawn(8, 0, 2), behind(0, 96));
    }
}
