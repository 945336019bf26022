/** The document's 'Terms', part 2: a run, joins, loops, and which steps are dead, kill, are idle. */
final class EdgesOfLoops {
    private final Sentences sentences;

    EdgesOfLoops(Sentences sentences) {
        this.sentences = sentences;
    }

    void all() {
        runs();
        joins();
        rounds();
        widened();
        rawBounds();
        madeNarrower();
        behindLoops();
        atLast();
        deadOnes();
        killers();
        idleOnes();
    }

    private void says(String quote) {
        sentences.says("Terms", quote);
    }

    /** How many points are ahead of each step, and behind the last one. */
    private static void points(String program, int rounds, int... want) {
        SumBounds x = Checks.of(program);
        Checks.due("ROUNDS of " + program, x.count(2), rounds);
        for (int i = 0; i < want.length; i++) {
            Checks.due("points(" + i + ") of " + program, x.points(i), want[i]);
        }
    }

    private void runs() {
        says("A RUN: the SHAPE ahead of STEP 0 has all POINTS.");
        for (String program : new String[] {"t00-9", "s01+9", "f2", "a1-9"}) {
            Checks.due("ahead of " + program, Checks.of(program).points(0), 4913);
        }
        says("Behind a STEP that is no LOOP the SHAPE is as told; it is that ahead of the next one.");
        points("t00-9,a0+9,f0,s01-9", 0, 4913, 4 * 289, 4 * 289, 4913, 8 * 289);
        SumBounds x = Checks.of("t00-9,a0+9");
        Checks.due("ahead of the second: greatest X0", x.bound(1, 0, 0), 90);
        Checks.due("behind it: greatest X0", x.bound(2, 0, 0), 108);
    }

    private void joins() {
        says("JOIN of two SHAPES is that of all POINTS BY the greater one of both BOUNDS of each two");
        SumBounds x = Checks.of("t00-6,s10+0,a0+9,t00+8,w2");
        Checks.due("X0 up to -3 or 1 to 4", x.bound(2, 0, 0), 108);
        Checks.due("X1 up to -3 in both", x.bound(2, 2, 2), 94);
        Checks.due("X1 less X0: 0 in the first one", x.bound(2, 2, 1), 100);
        Checks.due("X0 less X1 in the other one", x.bound(2, 0, 3), 112);
        Checks.due("a POINT of neither", x.has(2, 0, -3, 0), 1);
        says("(of one without POINTS and another one: the other one).");
        points("t00-6,t11-9,w1", 0, 4913, 6 * 289, 0, 6 * 289);
        points("t01-1,f0,w1", 0, 4913, 0, 0, 0);
        points("s23-8,a2-9,w1", 0, 4913, 9 * 17, 0, 9 * 17);
        points("a1+5,s10+2,t21+1,w1", 0, 4913, 12 * 289, 15 * 17, 0, 12 * 289);
    }

    private void rounds() {
        says("A LOOP that goes back to STEP K: FIRST is the SHAPE ahead of K as it came. Again and again:"
                + " the STEPS from K on are done up to the LOOP; BACK is the SHAPE there; NEXT is the JOIN"
                + " of the one ahead of K and of BACK.");
        points("t00+0,t22+0,a0+1,a1+1,w2", 1, 4913, 9 * 289, 217 * 17, 208 * 17, 200 * 17, 217 * 17);
        points("t22+0,a0+1,a1+1,w2", 1, 4913, 9 * 289, 16 * 289, 16 * 16 * 17, 16 * 289);
        says("If NEXT is the one ahead of K, it is STEADY.");
        points("f0,w0", 0, 4913, 4913, 4913);
        points("t00+4,f1,w1", 0, 4913, 11 * 289, 11 * 289, 11 * 289);
        points("a0+3,w0", 0, 4913, 14 * 289, 4913);
    }

    private void widened() {
        says("Else ROUNDS are one more, and the RAW BOUNDS (those of FIRST at the beginning, of nothing if it"
                + " has no POINTS) are WIDENED: each that is less than that of NEXT becomes as great as it can"
                + " be (16);");
        points("s05-3,a0+1,w1", 1, 4913, 2499, 2261, 2499);
        points("s20-2,f2,w1", 1, 4913, 15 * 289, 15 * 289, 15 * 289);
        points("s21+4,s25+1,w1", 2, 4913, 3536, 3536, 3536);
        points("t00-6,a0+1,t22+4,w1", 2, 4913, 268 * 17, 257 * 17, 16 * 11 * 17, 268 * 17);
        says("if FIRST and all so far had no POINTS, they become those of NEXT instead.");
        points("a0-9,a0-8,f0,a1+1,w2", 0, 4913, 8 * 289, 0, 0, 0, 0);
    }

    private void rawBounds() {
        says("The SHAPE ahead of K is that of the POINTS BY the RAW BOUNDS then (these are kept as they are,"
                + " they are not made smaller by it).");
        points("t00-7,a1+8,s11+4,s01+0,t34-3,w2", 1, 4913, 1445, 1367, 147, 147, 90, 1367);
        points("t33-4,s04-9,a1-1,s05+4,w1", 3, 4913, 3918, 136, 128, 128, 3918);
        points("s05-1,t42-3,a0+9,s15-7,s25-2,w3", 2, 4913, 272, 105, 284, 30, 30, 284);
        points("s22+2,a2-9,s13+3,w2", 2, 4913, 15 * 17, 14 * 8 * 17, 14 * 8 * 17, 14 * 8 * 17);
        points("t52-4,t14-7,s25-4,w2", 2, 4913, 1547, 273, 273, 273);
        points("t43-9,t12-0,s10-2,w1", 2, 4913, 1928, 848, 120, 1928);
    }

    private void madeNarrower() {
        says("When it is STEADY, the SHAPE ahead of K becomes once the JOIN of FIRST and of BACK, and the STEPS"
                + " up to the LOOP are done once more.");
        points("t42+2,s13-5,w1", 1, 4913, 4658, 3468, 4658);
        points("a0+8,t05+0,s02+1,w1", 2, 4913, 4148, 1920, 235, 4148);
        points("s05+0,f1,s01-2,w1", 1, 4913, 4862, 4862, 4335, 4862);
        SumBounds x = Checks.of("t00+0,a0+1,t00+5,w1");
        Checks.due("X0 is 2 at most ahead of K", x.bound(1, 0, 0), 104);
        Checks.due("3 behind it, done once more", x.bound(2, 0, 0), 106);
        Checks.due("2 behind the LOOP", x.bound(4, 0, 0), 104);
    }

    private void behindLoops() {
        says("The SHAPE behind the LOOP is that ahead of K then.");
        points("a0+3,w0", 0, 4913, 14 * 289, 4913);
        Checks.due("alike", Checks.of("t00+0,a0+1,t00+5,w1").compare(1, 4), 0);
        Checks.due("a STEP behind it goes on from there", Checks.of("a0+3,w0,a0+9").points(3), 8 * 289);
    }

    private void atLast() {
        says("What is told of STEPS is as it is at last.");
        SumBounds x = Checks.of("t00+0,a0+1,w1");
        Checks.due("ahead of K", x.points(1), 4913);
        Checks.due("the test ahead of K does nothing then", x.step(0, 6), 1);
        SumBounds two = Checks.of("t00+0,a0+1,w1,a0-9,w3");
        Checks.due("ahead of the second K", two.points(3), 4913);
        Checks.due("behind the last STEP", two.points(5), 4913);
        says("ROUNDS of a PROGRAM: of all LOOPS, together.");
        Checks.due("one and one", Checks.of("t00+0,a0+1,w1,t22-2,a1+1,w4").count(2), 2);
        Checks.due("one and none", Checks.of("t00+0,a0+1,w1,f1,w3").count(2), 1);
        Checks.due("none without a LOOP", Checks.of("t00+0,a0+1").count(2), 0);
        SumBounds again = Checks.of("t00+0,a0+1,w1,t22-2,a1+1,w4");
        again.by(0, 1);
        Checks.due("told anew when a STEP changes", again.count(2), 2);
        again.take(5);
        Checks.due("of the LOOPS that are left", again.count(2), 1);
    }

    private static void told(SumBounds x, int what, int... want) {
        for (int i = 0; i < want.length; i++) {
            Checks.due("step(" + i + ", " + what + ")", x.step(i, what), want[i]);
        }
    }

    private void deadOnes() {
        says("A STEP is DEAD, if the SHAPE ahead of it has no POINTS;");
        told(Checks.of("t00+0,t01-1,f0,a0+1,w3"), 4, 0, 0, 1, 1, 1);
        told(Checks.of("f0,t01-1,w0,f0"), 4, 0, 0, 1, 0);
        told(Checks.of("s10-0,s20-0,a0-8,a0-8,f0"), 4, 0, 0, 0, 0, 0);
    }

    private void killers() {
        says("it KILLS, if that has some, but that behind it none;");
        told(Checks.of("t00+0,t01-1,t01-1,a0+1,w3"), 5, 0, 1, 0, 0, 0);
        told(Checks.of("f0,t01-1,w0,t10-1"), 5, 0, 1, 0, 1);
        told(Checks.of("a0-8,a0-8,a0-1"), 5, 0, 0, 1);
    }

    private void idleOnes() {
        says("it is IDLE, if it has POINTS, and both are alike.");
        told(Checks.of("t01+0,f0,s00+0,a1+0,t01-1,f0"), 6, 1, 1, 1, 1, 0, 0);
        told(Checks.of("t00+9,t00+8,t00+7"), 6, 0, 1, 0);
        SumBounds same = Checks.of("t00+0,s01+0");
        Checks.due("as many POINTS", same.points(2), same.points(1));
        Checks.due("but other ones", same.step(1, 6), 0);
    }
}
