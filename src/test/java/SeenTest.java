/** Promises 18 to 20: see, forget, drawn; and what step() tells of what is SEEN. */
public final class SeenTest {
    public static void main(String[] args) {
        oneSight();
        sightsTogether();
        limits();
        sightsStay();
        drawings();
        Checks.end();
    }

    private static void sorts(SumBounds x, int step, int sorts, int ask) {
        Checks.due("SORTS of " + step, x.step(step, 7), sorts);
        Checks.due("ASK for " + step, x.step(step, 8), ask);
    }

    private static void oneSight() {
        int[] yes = {27, 14, 20, 16};
        int[] no = {4, 17, 11, 15};
        int[] askYes = {1, 0, 0, 0};
        int[] askNo = {0, 2, 1, 0};
        for (int what = 0; what < 4; what++) {
            SumBounds x = Checks.of("f0,f1");
            sorts(x, 0, 31, 1);
            Checks.due("see", x.see(0, what, true), 1);
            sorts(x, 0, yes[what], askYes[what]);
            sorts(x, 1, 31, 1);
            Checks.due("see of the other one", x.see(1, what, false), 2);
            sorts(x, 1, no[what], askNo[what]);
            sorts(x, 0, yes[what], askYes[what]);
        }
    }

    private static void sightsTogether() {
        SumBounds x = Checks.of("f0");
        x.see(0, 1, true);
        x.see(0, 0, true);
        sorts(x, 0, 10, 0);
        x.see(0, 2, true);
        sorts(x, 0, 0, SumBounds.NONE);
        Checks.due("the same once more counts", x.see(0, 2, true), 4);
    }

    private static void limits() {
        SumBounds x = Checks.of("f0,f1");
        for (int i = 1; i <= 6; i++) Checks.due("see " + i, x.see(i % 2, 0, true), i);
        Checks.refused(x, "see a seventh", () -> x.see(0, 3, true), SumBounds.FULL);
        Checks.refused(x, "see(0, 4)", () -> x.see(0, 4, true), SumBounds.OUTSIDE);
        Checks.refused(x, "see(0, -1)", () -> x.see(0, -1, true), SumBounds.OUTSIDE);
        Checks.refused(x, "see(2, 4)", () -> x.see(2, 4, true), SumBounds.UNKNOWN);
        Checks.refused(x, "see(-1, 0)", () -> x.see(-1, 0, true), SumBounds.UNKNOWN);
        Checks.due("count(7)", x.count(7), 6);
        Checks.due("forget()", x.forget(), 6);
        Checks.due("count(7) then", x.count(7), 0);
        sorts(x, 0, 31, 1);
        Checks.due("forget() again", x.forget(), 0);
    }

    /** What is SEEN is of a number, and no call but forget() and program() is told to lose it. */
    private static void sightsStay() {
        SumBounds x = Checks.of("f0,f1,f2");
        x.see(2, 3, true);
        x.see(0, 3, false);
        x.put(0, 2, 0, 0, 0);
        sorts(x, 2, 16, 0);
        sorts(x, 3, 31, 1);
        x.take(0);
        x.take(0);
        Checks.due("count(7) behind take()", x.count(7), 2);
        sorts(x, 0, 15, 0);
        x.put(2, 2, 0, 0, 0);
        sorts(x, 2, 16, 0);
    }

    private static void drawings() {
        SumBounds x = new SumBounds();
        Checks.due("drawn(1, 0, 2): the SEED of 12 DRAWS", x.drawn(1, 0, 2), seedBehind(0, 12));
        Checks.due("drawn(8, 1, 2)", x.drawn(8, 1, 2), seedBehind(1, 96));
        Checks.due("drawn(8, greatest, 2)", x.drawn(8, Integer.MAX_VALUE, 2), seedBehind(Integer.MAX_VALUE, 96));
        Model model = new Model();
        for (int seed = 0; seed < 60; seed++) {
            for (int what = 0; what < 3; what++) {
                int times = 1 + seed % 8;
                String call = "drawn(" + times + ", " + seed + ", " + what + ")";
                Checks.due(call, x.drawn(times, seed, what), model.drawn(times, seed, what));
            }
        }
        Checks.refused(x, "drawn(0, 0, 0)", () -> x.drawn(0, 0, 0), SumBounds.OUTSIDE);
        Checks.refused(x, "drawn(9, 0, 0)", () -> x.drawn(9, 0, 0), SumBounds.OUTSIDE);
        Checks.refused(x, "drawn(1, -1, 0)", () -> x.drawn(1, -1, 0), SumBounds.OUTSIDE);
        Checks.refused(x, "drawn(1, least, 0)", () -> x.drawn(1, Integer.MIN_VALUE, 0), SumBounds.OUTSIDE);
        Checks.refused(x, "drawn(1, 0, -1)", () -> x.drawn(1, 0, -1), SumBounds.OUTSIDE);
        Checks.refused(x, "drawn(1, 0, 3)", () -> x.drawn(1, 0, 3), SumBounds.OUTSIDE);
        SumBounds busy = Checks.of("t00+0,a0+1,w1");
        long before = busy.digest();
        busy.drawn(8, 7, 1);
        Checks.due("drawn() changes nothing", busy.digest(), before);
    }

    private static long seedBehind(long seed, int draws) {
        long s = seed;
        for (int i = 0; i < draws; i++) s = (s * 1103515245L + 12345L) % 2147483648L;
        return s;
    }
}
