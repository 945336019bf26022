import java.util.ArrayList;
import java.util.List;
import java.util.function.Supplier;
import java.util.function.ToLongFunction;

/** All that an object tells, to see that a refused call has changed nothing of it. */
final class Portrait {
    private Portrait() { }

    /**
     * The object is used up by it: what its image and its page hold is told only by going on from
     * them. It stays far below the 512 calls that an object is good for.
     */
    static List<Long> of(SumBounds x) {
        List<Long> told = new ArrayList<>();
        int steps = x.count(0);
        for (int step = 0; step < steps; step++) {
            for (int what = 0; what < 9; what++) told.add((long) x.step(step, what));
        }
        for (int step = 0; step <= steps; step++) shape(x, step, steps, told);
        for (int kind = 0; kind < 5; kind++) {
            for (int number = 0; number < 3; number++) told.add((long) x.racked(kind, number));
        }
        for (int what = 0; what < 10; what++) told.add((long) x.count(what));
        told.add((long) x.fault());
        told.add(x.digest());
        told.add((long) x.restore());
        told.add(x.digest());
        told.add((long) x.program());
        told.add(x.digest());
        told.add((long) x.restore());
        return told;
    }

    private static void shape(SumBounds x, int step, int steps, List<Long> told) {
        told.add((long) x.points(step));
        told.add(x.share(step));
        for (int one = 0; one < 6; one++) {
            for (int other = 0; other <= one; other++) told.add((long) x.bound(step, one, other));
        }
        for (int other = 0; other <= steps; other++) told.add((long) x.compare(step, other));
    }

    /** Of two objects made alike one is called: it answers so, and both still tell the same. */
    static void keeps(Supplier<SumBounds> maker, String call, ToLongFunction<SumBounds> calls, long want) {
        SumBounds called = maker.get();
        SumBounds left = maker.get();
        Checks.due(call, calls.applyAsLong(called), want);
        Checks.due(call + " changes nothing", of(called).equals(of(left)) ? 1 : 0, 1);
    }

    /** An object in which everything holds something: steps, racks, seen, an image that differs, a page. */
    static SumBounds busy(String program) {
        SumBounds x = Checks.of(program);
        x.see(0, 1, true);
        x.image();
        x.see(1, 3, false);
        x.by(0, 2);
        x.rack(0, 0);
        x.rack(1, 1);
        x.rack(2, 4);
        x.rack(1, 0);
        Checks.write(x, "f1,w0");
        return x;
    }

    /** A test, a loop round a move, a set and a loss: every kind, and room for one step more. */
    static SumBounds busy() {
        return busy("t02+3,a0+1,w1,s13-1,f2");
    }

    static SumBounds busyAndFull() {
        return busy("t02+3,a0+1,w1,s13-1,f2,t45+0");
    }
}
