/** Promises 21 to 24: image, restore, count, digest; and that no arguments make a call fail. */
public final class AllTest {
    public static void main(String[] args) {
        images();
        counts();
        digests();
        digestsWithoutProgram();
        anyArguments();
        Checks.end();
    }

    private static void images() {
        SumBounds x = Checks.of("t00+0,a0+1,w1");
        Checks.refused(x, "restore() of no IMAGE", x::restore, SumBounds.STATE);
        x.see(1, 1, true);
        x.rack(1, 1);
        long before = x.digest();
        Checks.due("image()", x.image(), 3);
        Checks.due("image() changes nothing", x.digest(), before);
        x.see(1, 0, true);
        x.by(0, 5);
        x.put(0, 2, 2, 0, 0);
        Checks.write(x, "f");
        Checks.due("restore()", x.restore(), 3);
        Checks.due("THE PAGE is not of it", x.blank(), 1);
        Checks.due("RACKS are empty", x.count(6), 0);
        x.rack(1, 1);
        Checks.due("all as it was", x.digest(), before);
        x.take(2);
        Checks.due("restore() again", x.restore(), 3);
        x.take(2);
        Checks.due("image() of two", x.image(), 2);
        x.take(1);
        Checks.due("restore() of the latest", x.restore(), 2);
        Checks.write(x, "f0");
        Checks.due("program()", x.program(), 1);
        Checks.refused(x, "restore() of another PROGRAM", x::restore, SumBounds.STATE);
        Checks.due("image() of it", x.image(), 1);
        x.put(0, 2, 0, 0, 0);
        Checks.due("restore() of it", x.restore(), 1);
        Checks.due("count(9) is not of it", x.count(9), 2);
    }

    private static void counts() {
        SumBounds x = Checks.of("f0,t00+0,a0+1,w2,t01-1,f1");
        x.rack(0, 0);
        x.rack(3, 4);
        x.see(0, 0, true);
        Checks.write(x, "f0,");
        int[] want = {6, 1, 1, 1, 2, 0, 2, 1, 3, 1};
        for (int what = 0; what < 10; what++) Checks.due("count(" + what + ")", x.count(what), want[what]);
        Checks.due("IDLE by what is ahead of the next one at last", x.step(1, 6), 1);
        Checks.refused(x, "count(10)", () -> x.count(10), SumBounds.OUTSIDE);
        Checks.refused(x, "count(-1)", () -> x.count(-1), SumBounds.OUTSIDE);
    }

    private static void digests() {
        SumBounds x = Checks.of("t00+0,a0+1,w1");
        x.rack(1, 1);
        x.see(2, 2, true);
        Checks.write(x, "w,f");
        long[] told = {
            0, 0, 0, 100, 0, 0, 1, 31, 1,
            3, 0, -1, 101, 0, 0, 0, 31, 1,
            4, 1, -1, -1, 0, 0, 0, 20, 0,
            4913, 116, 116, 116, bits(4913), 4913, 116, 116, 116, bits(4913),
            4624, 116, 115, 116, bits(4624), 4913, 116, 116, 116, bits(4913),
            -1, -1, -1, 1, -1, -1, -1, -1, -1, -1, -1, -1, -1, -1, -1,
            'w', ',', 'f',
            3, 1, 1, 0, 1, 4913, 1, 1, 3, 1};
        Checks.due("digest()", x.digest(), fold(told));
    }

    /** There is no STEP and no last one then, so nothing of points(), bound(), share() goes in. */
    private static void digestsWithoutProgram() {
        SumBounds x = new SumBounds();
        long[] ofNew = {
            -1, -1, -1, -1, -1, -1, -1, -1, -1, -1, -1, -1, -1, -1, -1,
            0, 0, 0, 0, 0, 0, 0, 0, 0, 0};
        Checks.due("digest() of a new object", x.digest(), fold(ofNew));
        Checks.due("the same as a number", x.digest(), 599906015138694744L);
        Checks.write(x, "f3");
        x.program();
        x.put(0, 2, 0, 0, 0);
        x.see(0, 0, true);
        long[] withLetters = {
            -1, -1, -1, -1, -1, -1, -1, -1, -1, -1, -1, -1, -1, -1, -1,
            'f', '3',
            0, 0, 0, 0, 0, 0, 0, 0, 2, 0};
        Checks.due("digest() with letters alone", x.digest(), fold(withLetters));
        x.blank();
        Checks.due("digest() behind blank()", x.digest(), fold(ofNew));
    }

    private static long bits(int points) {
        return Double.doubleToLongBits(points / 4913.0);
    }

    private static long fold(long[] told) {
        long h = 1447;
        for (long number : told) h = 31 * h + number;
        return h;
    }

    /**
     * The machine itself must never throw: this test would end with its exception. These are far more
     * than 512 calls on an object, whose answers are free then; but no call may throw in any state.
     */
    private static void anyArguments() {
        int[] any = {Integer.MIN_VALUE, -10, -9, -1, 0, 1, 2, 3, 4, 5, 6, 7, 9, 10, 36, Integer.MAX_VALUE};
        SumBounds[] objects = {new SumBounds(), Checks.of("f0"), Checks.of("t00+0,a0+1,w1,s12-9,t01-1,w3")};
        for (SumBounds x : objects) {
            for (int a : any) {
                for (int b : any) {
                    x.letter(a);
                    x.step(a, b);
                    x.as(a, b);
                    x.compare(a, b);
                    x.rack(a, b);
                    x.racked(a, b);
                    x.see(a, b, a > b);
                    x.by(a, b);
                    for (int c : any) {
                        x.bound(a, b, c);
                        x.has(a, b, c, a);
                        x.drawn(a, b, c);
                        x.put(a, b, c, c, b);
                        x.put(a, b, 0, c, 0);
                        x.take(c);
                    }
                }
                x.points(a);
                x.share(a);
                x.count(a);
                x.fault();
                x.program();
                x.image();
                x.restore();
                x.digest();
            }
            Checks.due("it goes on", x.count(10), SumBounds.OUTSIDE);
        }
    }
}
