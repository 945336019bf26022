import java.util.ArrayList;
import java.util.Arrays;
import java.util.List;
import java.util.regex.Matcher;
import java.util.regex.Pattern;

/**
 * The document once more, by its words and in another way than the class: a shape is the set of
 * its points, a program is its text, a fault is found by trying to complete what is written.
 */
final class Model {
    static final int NONE = -1, UNKNOWN = -101, OUTSIDE = -102, STATE = -103, FULL = -104;
    private static final Pattern STEP =
            Pattern.compile("t([0-5])([0-5])([+-]\\d)|s([0-2])([0-5])([+-]\\d)|f([0-2])|a([0-2])([+-]\\d)|w(\\d)");
    private static final String[] ENDS =
            {"", "0", "1", "2", "3", "4", "5", "+0", "0+0", "00+0", "t00+0"};

    /** A step as it is written: its kind, its digits, its number. */
    record Step(int kind, int first, int second, int number) {
        boolean hasNumber() {
            return kind == 0 || kind == 1 || kind == 3;
        }

        boolean is(int wanted) {
            return wanted == 0 || kind == wanted || (kind == 3 && wanted == 1);
        }
    }

    /** What is seen of a step. */
    record Sight(int step, int what, boolean could) { }

    private final StringBuilder page = new StringBuilder();
    private List<Step> steps = new ArrayList<>();
    private List<Sight> seen = new ArrayList<>();
    private List<Step> imageSteps = null;
    private List<Sight> imageSeen = null;
    private final List<List<Integer>> racks = new ArrayList<>();
    private boolean[][] shapes = new boolean[0][];
    private int rounds = 0;
    private int readings = 0;

    Model() {
        for (int kind = 0; kind < 5; kind++) racks.add(new ArrayList<>());
    }

    // ---- points and bounds

    static int signed(int which, int point) {
        int number = which / 2 == 0 ? point / 289 : which / 2 == 1 ? point / 17 % 17 : point % 17;
        return which % 2 == 0 ? number - 8 : 8 - number;
    }

    static int pointAt(int x0, int x1, int x2) {
        return (x0 + 8) * 289 + (x1 + 8) * 17 + x2 + 8;
    }

    static int count(boolean[] shape) {
        int points = 0;
        for (boolean in : shape) points += in ? 1 : 0;
        return points;
    }

    /** Null: it has no points. */
    static int[][] bounds(boolean[] shape) {
        if (count(shape) == 0) return null;
        int[][] bounds = new int[6][6];
        for (int[] row : bounds) Arrays.fill(row, -1000);
        int[] values = new int[6];
        for (int p = 0; p < 4913; p++) {
            if (!shape[p]) continue;
            for (int one = 0; one < 6; one++) values[one] = signed(one, p);
            for (int one = 0; one < 6; one++) {
                for (int other = 0; other < 6; other++) {
                    bounds[one][other] = Math.max(bounds[one][other], values[one] + values[other]);
                }
            }
        }
        return bounds;
    }

    static boolean[] pointsBy(int[][] bounds) {
        boolean[] shape = new boolean[4913];
        for (int p = 0; p < 4913; p++) {
            shape[p] = true;
            for (int one = 0; one < 6; one++) {
                for (int other = 0; other < 6; other++) {
                    shape[p] &= signed(one, p) + signed(other, p) <= bounds[one][other];
                }
            }
        }
        return shape;
    }

    static boolean[] join(boolean[] one, boolean[] other) {
        int[][] left = bounds(one);
        int[][] right = bounds(other);
        if (left == null) return other.clone();
        if (right == null) return one.clone();
        for (int i = 0; i < 6; i++) {
            for (int j = 0; j < 6; j++) left[i][j] = Math.max(left[i][j], right[i][j]);
        }
        return pointsBy(left);
    }

    // ---- a run

    static boolean[] behind(Step step, boolean[] shape) {
        boolean[] behind = new boolean[4913];
        for (int p = 0; p < 4913; p++) {
            if (!shape[p]) continue;
            if (step.kind() == 0) {
                behind[p] = signed(step.first(), p) + signed(step.second(), p) <= step.number();
            } else if (step.kind() == 2) {
                for (int value = -8; value <= 8; value++) behind[with(p, step.first(), value)] = true;
            } else {
                int from = step.kind() == 1 ? step.second() : 2 * step.first();
                int value = signed(from, p) + step.number();
                if (value >= -8 && value <= 8) behind[with(p, step.first(), value)] = true;
            }
        }
        return behind;
    }

    private static int with(int point, int number, int value) {
        int[] x = {signed(0, point), signed(2, point), signed(4, point)};
        x[number] = value;
        return pointAt(x[0], x[1], x[2]);
    }

    private void run() {
        for (List<Integer> rack : racks) rack.clear();
        rounds = 0;
        shapes = new boolean[steps.size() + 1][];
        shapes[0] = new boolean[4913];
        Arrays.fill(shapes[0], true);
        for (int i = 0; i < steps.size(); i++) {
            if (steps.get(i).kind() == 4) {
                loop(steps.get(i).first(), i);
            } else {
                shapes[i + 1] = behind(steps.get(i), shapes[i]);
            }
        }
    }

    private void go(int from, int to) {
        for (int i = from; i < to; i++) shapes[i + 1] = behind(steps.get(i), shapes[i]);
    }

    private void loop(int k, int at) {
        boolean[] first = shapes[k].clone();
        int[][] raw = bounds(first);
        while (true) {
            go(k, at);
            boolean[] next = join(shapes[k], shapes[at]);
            if (Arrays.equals(next, shapes[k])) break;
            rounds++;
            int[][] grown = bounds(next);
            if (raw == null) {
                raw = grown;
            } else {
                for (int i = 0; i < 6; i++) {
                    for (int j = 0; j < 6; j++) if (raw[i][j] < grown[i][j]) raw[i][j] = 16;
                }
            }
            shapes[k] = pointsBy(raw);
        }
        shapes[k] = join(first, shapes[at]);
        go(k, at);
        shapes[at + 1] = shapes[k];
    }

    // ---- the program

    int letter(int code) {
        if (code < 1 || code > 126) return OUTSIDE;
        if (page.length() == 36) return FULL;
        page.append((char) code);
        return page.length();
    }

    int blank() {
        int had = page.length();
        page.setLength(0);
        return had;
    }

    /** Null: the text is no program. */
    static List<Step> read(String text) {
        String[] parts = text.split(",", -1);
        if (parts.length > 6) return null;
        List<Step> read = new ArrayList<>();
        int lastLoop = -1;
        for (int i = 0; i < parts.length; i++) {
            Matcher m = STEP.matcher(parts[i]);
            if (!m.matches()) return null;
            switch (parts[i].charAt(0)) {
                case 't' -> read.add(new Step(0, number(m, 1), number(m, 2), number(m, 3)));
                case 's' -> read.add(new Step(1, number(m, 4), number(m, 5), number(m, 6)));
                case 'f' -> read.add(new Step(2, number(m, 7), NONE, 0));
                case 'a' -> read.add(new Step(3, number(m, 8), NONE, number(m, 9)));
                default -> {
                    int back = number(m, 10);
                    if (back >= i || back <= lastLoop) return null;
                    lastLoop = i;
                    read.add(new Step(4, back, NONE, 0));
                }
            }
        }
        return read;
    }

    private static int number(Matcher m, int group) {
        return Integer.parseInt(m.group(group));
    }

    int fault() {
        for (int length = 1; length <= page.length(); length++) {
            String begun = page.substring(0, length);
            boolean canEnd = false;
            for (String end : ENDS) canEnd |= read(begun + end) != null;
            if (!canEnd) return length - 1;
        }
        return page.length();
    }

    int program() {
        List<Step> read = read(page.toString());
        if (read == null) return STATE;
        steps = read;
        seen = new ArrayList<>();
        imageSteps = null;
        imageSeen = null;
        page.setLength(0);
        readings++;
        run();
        return steps.size();
    }

    private boolean known(int step) {
        return step >= 0 && step < steps.size();
    }

    private boolean place(int step) {
        return !steps.isEmpty() && step >= 0 && step <= steps.size();
    }

    int step(int step, int what) {
        if (!known(step)) return UNKNOWN;
        if (what < 0 || what > 8) return OUTSIDE;
        Step s = steps.get(step);
        int before = count(shapes[step]);
        int after = count(shapes[step + 1]);
        boolean alike = Arrays.equals(shapes[step], shapes[step + 1]);
        return switch (what) {
            case 0 -> s.kind();
            case 1 -> s.first();
            case 2 -> s.second();
            case 3 -> s.hasNumber() ? 100 + s.number() : NONE;
            case 4 -> before == 0 ? 1 : 0;
            case 5 -> before > 0 && after == 0 ? 1 : 0;
            case 6 -> s.kind() != 4 && before > 0 && alike ? 1 : 0;
            case 7 -> bits(sorts(step));
            default -> ask(sorts(step));
        };
    }

    /** Whether a step of a kind could do what is asked. */
    private static boolean could(int kind, int what) {
        return switch (what) {
            case 0 -> kind != 2;
            case 1 -> kind == 1 || kind == 2 || kind == 3;
            case 2 -> kind == 2 || kind == 4;
            default -> kind == 4;
        };
    }

    private List<Integer> sorts(int step) {
        List<Integer> left = new ArrayList<>(List.of(0, 1, 2, 3, 4));
        for (Sight s : seen) if (s.step() == step) left.removeIf(kind -> could(kind, s.what()) != s.could());
        return left;
    }

    private static int bits(List<Integer> kinds) {
        int bits = 0;
        for (int kind : kinds) bits |= 1 << kind;
        return bits;
    }

    private static int ask(List<Integer> kinds) {
        if (kinds.isEmpty()) return NONE;
        int best = 0;
        long fewest = 99;
        for (int what = 0; what < 4; what++) {
            int asked = what;
            long yes = kinds.stream().filter(kind -> could(kind, asked)).count();
            long worst = Math.max(yes, kinds.size() - yes);
            if (worst < fewest) {
                fewest = worst;
                best = what;
            }
        }
        return best;
    }

    int as(int step, int kind) {
        if (!known(step)) return UNKNOWN;
        if (kind < 0 || kind > 4) return OUTSIDE;
        return steps.get(step).is(kind) ? step : NONE;
    }

    // ---- shapes

    int bound(int step, int one, int other) {
        if (!place(step)) return UNKNOWN;
        if (one < 0 || one > 5 || other < 0 || other > 5) return OUTSIDE;
        int[][] bounds = bounds(shapes[step]);
        return bounds == null ? NONE : 100 + bounds[one][other];
    }

    int[][] boundsAhead(int step) {
        return bounds(shapes[step]);
    }

    int points(int step) {
        return place(step) ? count(shapes[step]) : UNKNOWN;
    }

    int has(int step, int x0, int x1, int x2) {
        if (!place(step)) return UNKNOWN;
        for (int x : new int[] {x0, x1, x2}) if (x < -8 || x > 8) return OUTSIDE;
        return shapes[step][pointAt(x0, x1, x2)] ? 1 : 0;
    }

    long share(int step) {
        return place(step) ? Double.doubleToLongBits(count(shapes[step]) / 4913.0) : UNKNOWN;
    }

    int compare(int one, int other) {
        if (!place(one) || !place(other)) return UNKNOWN;
        boolean onlyLeft = false;
        boolean onlyRight = false;
        boolean both = false;
        for (int p = 0; p < 4913; p++) {
            boolean left = shapes[one][p];
            boolean right = shapes[other][p];
            onlyLeft |= left && !right;
            onlyRight |= right && !left;
            both |= left && right;
        }
        if (!onlyLeft) return onlyRight ? 1 : 0;
        if (!onlyRight) return 2;
        return both ? 3 : 4;
    }

    // ---- what is done

    int put(int place, int kind, int one, int other, int by) {
        if (place < 0 || place > steps.size()) return UNKNOWN;
        if (kind < 0 || kind > 3 || one < 0 || one > (kind == 0 ? 5 : 2)) return OUTSIDE;
        boolean second = kind < 2;
        if (second && (other < 0 || other > 5)) return OUTSIDE;
        if (kind != 2 && (by < -9 || by > 9)) return OUTSIDE;
        if (steps.isEmpty()) return STATE;
        if (steps.size() == 6) return FULL;
        List<Step> changed = new ArrayList<>();
        for (Step s : steps) {
            boolean shifts = s.kind() == 4 && s.first() > place;
            changed.add(shifts ? new Step(4, s.first() + 1, NONE, 0) : s);
        }
        changed.add(place, new Step(kind, one, second ? other : NONE, kind == 2 ? 0 : by));
        steps = changed;
        run();
        return steps.size();
    }

    int take(int step) {
        if (!known(step)) return UNKNOWN;
        if (steps.size() == 1) return STATE;
        List<Step> changed = new ArrayList<>();
        for (Step s : steps) {
            boolean shifts = s.kind() == 4 && s.first() > step;
            changed.add(shifts ? new Step(4, s.first() - 1, NONE, 0) : s);
        }
        changed.remove(step);
        for (int i = 0; i < changed.size(); i++) {
            if (changed.get(i).kind() == 4 && changed.get(i).first() == i) return STATE;
        }
        steps = changed;
        run();
        return steps.size();
    }

    int by(int step, int by) {
        if (!known(step)) return UNKNOWN;
        if (by < -9 || by > 9) return OUTSIDE;
        Step s = steps.get(step);
        if (!s.hasNumber()) return STATE;
        steps = new ArrayList<>(steps);
        steps.set(step, new Step(s.kind(), s.first(), s.second(), by));
        run();
        return count(shapes[steps.size()]);
    }

    int rack(int step, int kind) {
        if (!known(step)) return UNKNOWN;
        if (kind < 0 || kind > 4) return OUTSIDE;
        if (racks.get(kind).size() == 3) return FULL;
        if (!steps.get(step).is(kind)) return NONE;
        racks.get(kind).add(step);
        return racks.get(kind).size();
    }

    int racked(int kind, int number) {
        if (kind < 0 || kind > 4 || number < 0 || number > 2) return OUTSIDE;
        return number < racks.get(kind).size() ? racks.get(kind).get(number) : NONE;
    }

    // ---- what is seen

    int see(int step, int what, boolean could) {
        if (!known(step)) return UNKNOWN;
        if (what < 0 || what > 3) return OUTSIDE;
        if (seen.size() == 6) return FULL;
        seen.add(new Sight(step, what, could));
        return seen.size();
    }

    int forget() {
        int had = seen.size();
        seen.clear();
        return had;
    }

    int drawn(int times, int seed, int what) {
        if (times < 1 || times > 8 || seed < 0 || what < 0 || what > 2) return OUTSIDE;
        long[] draw = {seed};
        int ended = 0;
        int points = 0;
        for (int i = 0; i < times; i++) {
            boolean[] shape = new boolean[4913];
            Arrays.fill(shape, true);
            for (int test = 0; test < 4; test++) {
                int one = next(draw, 6);
                int other = next(draw, 6);
                shape = behind(new Step(0, one, other, next(draw, 12) - 4), shape);
            }
            points += count(shape);
            ended += count(shape) > 0 ? 1 : 0;
        }
        return what == 0 ? ended : what == 1 ? points : (int) draw[0];
    }

    private static int next(long[] seed, int of) {
        seed[0] = (1103515245L * seed[0] + 12345L) % (1L << 31);
        return (int) (seed[0] / 65536 % of);
    }

    // ---- what is told of all

    int image() {
        if (steps.isEmpty()) return STATE;
        imageSteps = new ArrayList<>(steps);
        imageSeen = new ArrayList<>(seen);
        return steps.size();
    }

    int restore() {
        if (imageSteps == null) return STATE;
        steps = new ArrayList<>(imageSteps);
        seen = new ArrayList<>(imageSeen);
        run();
        return steps.size();
    }

    int count(int what) {
        int told = 0;
        switch (what) {
            case 0: return steps.size();
            case 1: for (Step s : steps) told += s.kind() == 4 ? 1 : 0; return told;
            case 2: return rounds;
            case 3: for (int i = 0; i < steps.size(); i++) told += step(i, 4); return told;
            case 4: for (int i = 0; i < steps.size(); i++) told += step(i, 6); return told;
            case 5: return steps.isEmpty() ? 0 : points(steps.size());
            case 6: for (List<Integer> rack : racks) told += rack.size(); return told;
            case 7: return seen.size();
            case 8: return page.length();
            case 9: return readings;
            default: return OUTSIDE;
        }
    }

    long digest() {
        List<Long> told = new ArrayList<>();
        for (int i = 0; i < steps.size(); i++) for (int what = 0; what <= 8; what++) told.add((long) step(i, what));
        int shapes = steps.isEmpty() ? 0 : steps.size() + 1;
        for (int i = 0; i < shapes; i++) {
            told.addAll(List.of((long) points(i), (long) bound(i, 0, 2), (long) bound(i, 1, 4)));
            told.addAll(List.of((long) bound(i, 5, 5), share(i)));
        }
        for (int kind = 0; kind < 5; kind++) for (int n = 0; n < 3; n++) told.add((long) racked(kind, n));
        for (int i = 0; i < page.length(); i++) told.add((long) page.charAt(i));
        for (int what = 0; what <= 9; what++) told.add((long) count(what));
        long h = 1447;
        for (long number : told) h = 31 * h + number;
        return h;
    }
}
