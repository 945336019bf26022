import java.util.Random;

/** Programs with loops, drawn by seeds: each shape along them, whole, as the model has it. */
public final class LoopsTest {
    private static final int PROGRAMS = 1500;

    public static void main(String[] args) {
        known();
        for (int seed = 0; seed < PROGRAMS; seed++) check(text(new Random(seed)));
        Checks.end();
    }

    private static void known() {
        String[] narrower = {"t00+0,a0+1,t00+5,w1", "t02+0,t13+0,a0+1,t00+4,a1-1,w2", "t00-8,a0+2,s10+1,t02+3,w1,f0"};
        String[] closedAheadOfK = {
            "a1+0,s05+6,t53-1,s10-3,a2-1,w3", "t33-4,s04-9,a1-1,s05+4,w1", "t11-4,f1,a0-1,s23-2,t43+0,w1",
            "s05-1,t42-3,a0+9,s15-7,s25-2,w3", "t00-7,a1+8,s11+4,s01+0,t34-3,w2"};
        String[] rawStaysRaw = {
            "t55+2,t14-2,t41+6,s25+3,w3", "t20-4,a1-7,t35+8,t24+3,s12+1,w2", "t24-1,t03-2,t11+7,f2,s01+0,w4",
            "t42-5,t15-1,s25-2,w2"};
        for (String text : narrower) check(text);
        for (String text : closedAheadOfK) check(text);
        for (String text : rawStaysRaw) check(text);
        SumBounds narrowed = Checks.of("t00+0,a0+1,t00+5,w1");
        Checks.due("ahead of the loop's first STEP", narrowed.bound(1, 0, 0), 104);
        Checks.due("ahead of its second STEP, done once more", narrowed.bound(2, 0, 0), 106);
        Checks.due("behind the LOOP", narrowed.bound(4, 0, 0), 104);
    }

    private static void check(String text) {
        SumBounds x = Checks.of(text);
        Model model = new Model();
        for (int i = 0; i < text.length(); i++) model.letter(text.charAt(i));
        model.program();
        for (int step = 0; step <= x.count(0); step++) {
            int[][] bounds = model.boundsAhead(step);
            for (int one = 0; one < 6; one++) {
                for (int other = 0; other < 6; other++) {
                    String call = text + ": bound(" + step + ", " + one + ", " + other + ")";
                    int want = bounds == null ? SumBounds.NONE : bounds[one][other] + 100;
                    Checks.due(call, x.bound(step, one, other), want);
                }
            }
            Checks.due(text + ": points(" + step + ")", x.points(step), model.points(step));
        }
        for (int what = 0; what < 6; what++) {
            Checks.due(text + ": count(" + what + ")", x.count(what), model.count(what));
        }
    }

    /** Small steps, tests that leave enough, and a loop or two that go back over most of them. */
    private static String text(Random random) {
        StringBuilder text = new StringBuilder();
        int free = 0;
        for (int i = 0; i < 6; i++) {
            if (i > 0) text.append(',');
            if (i == 5 && free <= 4 || i == 3 && random.nextInt(3) == 0) {
                text.append('w').append(free + random.nextInt(Math.min(3, i - free)));
                free = i + 1;
                continue;
            }
            int number = random.nextInt(3);
            String by = (random.nextBoolean() ? "+" : "-") + random.nextInt(4);
            switch (random.nextInt(7)) {
                case 0, 1 -> text.append('a').append(number).append(by);
                case 2 -> text.append('s').append(number).append(random.nextInt(6)).append(by);
                case 3 -> text.append('f').append(number);
                default -> text.append('t').append(random.nextInt(6)).append(random.nextInt(6)).append(by);
            }
        }
        return text.toString();
    }
}
