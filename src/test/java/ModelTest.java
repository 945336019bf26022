import java.util.Random;

/** All promises: runs of calls drawn by seeds, each answer as the model of the document has it. */
public final class ModelTest {
    private static final int RUNS = 160, CALLS = 220;
    private static final int[] FAR = {-1, 6, 7, 9, 43, Integer.MIN_VALUE, Integer.MAX_VALUE};

    private final Random random;
    private final SumBounds x = new SumBounds();
    private final Model model = new Model();
    private String run;

    private ModelTest(long seed) {
        random = new Random(seed);
        run = "run " + seed + ":";
    }

    public static void main(String[] args) {
        for (long seed = 0; seed < RUNS; seed++) new ModelTest(seed).go();
        Checks.end();
    }

    private void go() {
        if (random.nextInt(8) > 0) write(text());
        for (int i = 0; i < CALLS; i++) {
            int draw = random.nextInt(40);
            if (draw < 6) callOfProgram(draw);
            else if (draw < 16) callOfShapes(draw % 5);
            else if (draw < 29) callOfChange(draw - 16);
            else callOfAll(draw - 29);
        }
        same("digest()", x.digest(), model.digest());
    }

    private void same(String call, long got, long want) {
        Checks.due(run + " " + call, got, want);
    }

    private int from(int least, int most) {
        return least + random.nextInt(most - least + 1);
    }

    /** Now and then a number that is far from what is asked. */
    private int near(int least, int most) {
        return random.nextInt(12) == 0 ? FAR[random.nextInt(FAR.length)] : from(least, most);
    }

    private String text() {
        StringBuilder text = new StringBuilder();
        int steps = from(1, 6);
        int free = 0;
        for (int i = 0; i < steps; i++) {
            if (i > 0) text.append(',');
            String by = (random.nextBoolean() ? "+" : "-") + from(0, random.nextInt(3) == 0 ? 9 : 4);
            int kind = i > free ? from(0, 5) : from(0, 3);
            switch (kind) {
                case 0 -> text.append('t').append(from(0, 5)).append(from(0, 5)).append(by);
                case 1 -> text.append('s').append(from(0, 2)).append(from(0, 5)).append(by);
                case 2 -> text.append('f').append(from(0, 2));
                case 3 -> text.append('a').append(from(0, 2)).append(by);
                default -> {
                    text.append('w').append(from(free, i - 1));
                    free = i + 1;
                }
            }
        }
        return text.toString();
    }

    private void write(String text) {
        for (int i = 0; i < text.length(); i++) {
            int code = random.nextInt(200) == 0 ? "tsfaw,+-0123456789".charAt(from(0, 17)) : text.charAt(i);
            same("letter(" + code + ")", x.letter(code), model.letter(code));
        }
        same("fault() of " + text, x.fault(), model.fault());
        same("program() of " + text, x.program(), model.program());
        run = run + " " + text;
    }

    private void callOfProgram(int draw) {
        int step = near(0, 6);
        switch (draw) {
            case 0 -> {
                int code = random.nextInt(4) == 0 ? near(0, 127) : "tsfaw,+-0123456789".charAt(from(0, 17));
                same("letter(" + code + ")", x.letter(code), model.letter(code));
            }
            case 1 -> same("fault()", x.fault(), model.fault());
            case 2 -> {
                if (random.nextBoolean()) same("blank()", x.blank(), model.blank());
                if (random.nextInt(6) == 0) write(text());
                same("program()", x.program(), model.program());
            }
            case 3 -> {
                int kind = near(0, 4);
                same("as(" + step + ", " + kind + ")", x.as(step, kind), model.as(step, kind));
            }
            default -> {
                int what = near(0, 8);
                same("step(" + step + ", " + what + ")", x.step(step, what), model.step(step, what));
            }
        }
    }

    private void callOfShapes(int draw) {
        int step = near(0, 6);
        int a = near(0, 5);
        int b = near(0, 5);
        switch (draw) {
            case 0 -> same("bound(" + step + ", " + a + ", " + b + ")", x.bound(step, a, b), model.bound(step, a, b));
            case 1 -> same("points(" + step + ")", x.points(step), model.points(step));
            case 2 -> {
                int x0 = near(-8, 8);
                int x1 = near(-8, 8);
                int x2 = near(-8, 8);
                String call = "has(" + step + ", " + x0 + ", " + x1 + ", " + x2 + ")";
                same(call, x.has(step, x0, x1, x2), model.has(step, x0, x1, x2));
            }
            case 3 -> same("share(" + step + ")", x.share(step), model.share(step));
            default -> same("compare(" + step + ", " + a + ")", x.compare(step, a), model.compare(step, a));
        }
    }

    private void callOfChange(int draw) {
        int step = near(0, 5);
        int kind = near(0, 4);
        if (draw < 2) {
            int one = near(0, 3);
            int other = near(0, 5);
            int by = near(-9, 9);
            String call = "put(" + step + ", " + kind + ", " + one + ", " + other + ", " + by + ")";
            same(call, x.put(step, kind, one, other, by), model.put(step, kind, one, other, by));
        } else if (draw < 4) {
            same("take(" + step + ")", x.take(step), model.take(step));
        } else if (draw < 6) {
            int by = near(-9, 9);
            same("by(" + step + ", " + by + ")", x.by(step, by), model.by(step, by));
        } else if (draw < 11) {
            same("rack(" + step + ", " + kind + ")", x.rack(step, kind), model.rack(step, kind));
        } else {
            int number = near(0, 2);
            same("racked(" + kind + ", " + number + ")", x.racked(kind, number), model.racked(kind, number));
        }
    }

    private void callOfAll(int draw) {
        int step = near(0, 5);
        switch (draw) {
            case 0, 1, 2 -> {
                int what = near(0, 3);
                boolean could = random.nextBoolean();
                String call = "see(" + step + ", " + what + ", " + could + ")";
                same(call, x.see(step, what, could), model.see(step, what, could));
            }
            case 3 -> {
                if (random.nextInt(3) == 0) same("forget()", x.forget(), model.forget());
            }
            case 4 -> {
                int times = near(1, 8);
                int seed = random.nextInt(5) == 0 ? near(0, 9) : random.nextInt() & 0x7fffffff;
                int what = near(0, 2);
                String call = "drawn(" + times + ", " + seed + ", " + what + ")";
                same(call, x.drawn(times, seed, what), model.drawn(times, seed, what));
            }
            case 5 -> same("image()", x.image(), model.image());
            case 6 -> same("restore()", x.restore(), model.restore());
            case 7 -> same("digest()", x.digest(), model.digest());
            default -> {
                int what = near(0, 9);
                same("count(" + what + ")", x.count(what), model.count(what));
            }
        }
    }
}
