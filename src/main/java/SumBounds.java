import java.util.Arrays;

/**
 * What three numbers can be along a small program, bounded by sums and differences of two of them.
 *
 * A shape of points is held by its 36 bounds alone. This is exact: every shape that a step or a
 * join makes is all the points by some bounds, and closed bounds of whole numbers are reached.
 */
public final class SumBounds {
    public static final int NONE = -1, UNKNOWN = -101, OUTSIDE = -102, STATE = -103, FULL = -104;

    private static final int TEST = 0, SET = 1, LOSE = 2, MOVE = 3, LOOP = 4, KINDS = 5;
    private static final int MOST_STEPS = 6, MOST_LETTERS = 36, MOST_SEEN = 6, MOST_RACKED = 3;
    private static final int GREATEST_CODE = 126, GREATEST_BY = 9, MOST_PROGRAMS = 8;
    private static final int NUMBERS = 3, SIGNED = 6, GREATEST = 8, GREATEST_SUM = 16;
    private static final int POINTS_IN_ALL = 4913;
    private static final int QUESTIONS = 4, TOLD_OF_STEP = 9, COUNTS = 10;
    private static final int TOLD_MORE = 100;

    private final Page page = new Page();
    private final Reader reader = new Reader();
    private final Steps steps = new Steps();
    private final Run run = new Run();
    private final Racks racks = new Racks();
    private final Seen seen = new Seen();
    private final Steps imageSteps = new Steps();
    private final Seen imageSeen = new Seen();
    private final Draws draws = new Draws();
    private final Shape scratch = new Shape();
    private boolean imageKept;
    private int readings;

    public SumBounds() {
        imageKept = false;
        readings = 0;
    }

    // ---- the program

    public int letter(int code) {
        if (code < 1 || code > GREATEST_CODE) return OUTSIDE;
        if (page.size >= MOST_LETTERS) return FULL;
        page.append(code);
        return page.size;
    }

    public int blank() {
        int had = page.size;
        page.size = 0;
        return had;
    }

    public int fault() {
        return reader.faultOf(page);
    }

    public int program() {
        if (reader.faultOf(page) < page.size || !reader.atAnEnd()) return STATE;
        steps.copy(reader.read);
        page.size = 0;
        seen.size = 0;
        imageKept = false;
        readings++;
        runAgain();
        return steps.size;
    }

    public int step(int step, int what) {
        if (!isStep(step)) return UNKNOWN;
        switch (what) {
            case 0: return steps.kinds[step];
            case 1: return steps.firsts[step];
            case 2: return steps.seconds[step];
            case 3: return hasNumber(steps.kinds[step]) ? steps.numbers[step] + TOLD_MORE : NONE;
            case 4: return asInt(run.isDead(step));
            case 5: return asInt(run.kills(step));
            case 6: return asInt(isIdle(step));
            case 7: return seen.sortsOf(step);
            case 8: return questionFor(seen.sortsOf(step));
            default: return OUTSIDE;
        }
    }

    public int as(int step, int kind) {
        if (!isStep(step)) return UNKNOWN;
        if (!isKind(kind)) return OUTSIDE;
        return isSuch(steps.kinds[step], kind) ? step : NONE;
    }

    // ---- shapes

    public int bound(int step, int one, int other) {
        if (!hasShape(step)) return UNKNOWN;
        if (!isSigned(one) || !isSigned(other)) return OUTSIDE;
        Shape shape = run.ahead[step];
        return shape.empty ? NONE : shape.boundOf(one, other) + TOLD_MORE;
    }

    public int points(int step) {
        if (!hasShape(step)) return UNKNOWN;
        return run.pointsAhead(step);
    }

    public int has(int step, int x0, int x1, int x2) {
        if (!hasShape(step)) return UNKNOWN;
        if (!isNumber(x0) || !isNumber(x1) || !isNumber(x2)) return OUTSIDE;
        return asInt(run.ahead[step].contains(x0, x1, x2));
    }

    public long share(int step) {
        if (!hasShape(step)) return UNKNOWN;
        return shareBits(run.pointsAhead(step));
    }

    public int compare(int one, int other) {
        if (!hasShape(one) || !hasShape(other)) return UNKNOWN;
        Shape left = run.ahead[one];
        Shape right = run.ahead[other];
        boolean leftWithin = left.isWithin(right);
        boolean rightWithin = right.isWithin(left);
        if (leftWithin && rightWithin) return 0;
        if (leftWithin) return 1;
        if (rightWithin) return 2;
        scratch.copy(left);
        scratch.meet(right);
        return scratch.empty ? 4 : 3;
    }

    // ---- what is done

    public int put(int place, int kind, int one, int other, int by) {
        if (place < 0 || place > steps.size) return UNKNOWN;
        if (!canBePut(kind, one, other, by)) return OUTSIDE;
        if (steps.size == 0) return STATE;
        if (steps.size >= MOST_STEPS) return FULL;
        int second = hasSecond(kind) ? other : NONE;
        int number = hasNumber(kind) ? by : 0;
        steps.insert(place, kind, one, second, number);
        runAgain();
        return steps.size;
    }

    public int take(int step) {
        if (!isStep(step)) return UNKNOWN;
        if (steps.size == 1 || steps.isAllOfALoop(step)) return STATE;
        steps.remove(step);
        runAgain();
        return steps.size;
    }

    public int by(int step, int by) {
        if (!isStep(step)) return UNKNOWN;
        if (!isBy(by)) return OUTSIDE;
        if (!hasNumber(steps.kinds[step])) return STATE;
        steps.numbers[step] = by;
        runAgain();
        return run.pointsAhead(steps.size);
    }

    public int rack(int step, int kind) {
        if (!isStep(step)) return UNKNOWN;
        if (!isKind(kind)) return OUTSIDE;
        if (racks.sizes[kind] >= MOST_RACKED) return FULL;
        if (!isSuch(steps.kinds[step], kind)) return NONE;
        return racks.lay(kind, step);
    }

    public int racked(int kind, int number) {
        if (!isKind(kind) || number < 0 || number >= MOST_RACKED) return OUTSIDE;
        return racks.stepAt(kind, number);
    }

    // ---- what is seen

    public int see(int step, int what, boolean could) {
        if (!isStep(step)) return UNKNOWN;
        if (what < 0 || what >= QUESTIONS) return OUTSIDE;
        if (seen.size >= MOST_SEEN) return FULL;
        seen.append(step, what, could);
        return seen.size;
    }

    public int forget() {
        int had = seen.size;
        seen.size = 0;
        return had;
    }

    public int drawn(int times, int seed, int what) {
        if (times < 1 || times > MOST_PROGRAMS || seed < 0 || what < 0 || what > 2) return OUTSIDE;
        int ended = 0;
        int together = 0;
        draws.seed = seed;
        for (int i = 0; i < times; i++) {
            draws.shapeOfFourTests(scratch);
            if (scratch.empty) continue;
            ended++;
            together += scratch.countPoints();
        }
        if (what == 0) return ended;
        return what == 1 ? together : draws.seed;
    }

    // ---- what is told of all

    public int image() {
        if (steps.size == 0) return STATE;
        imageSteps.copy(steps);
        imageSeen.copy(seen);
        imageKept = true;
        return steps.size;
    }

    public int restore() {
        if (!imageKept) return STATE;
        steps.copy(imageSteps);
        seen.copy(imageSeen);
        runAgain();
        return steps.size;
    }

    public int count(int what) {
        switch (what) {
            case 0: return steps.size;
            case 1: return steps.countLoops();
            case 2: return run.rounds;
            case 3: return countDead();
            case 4: return countIdle();
            case 5: return steps.size == 0 ? 0 : run.pointsAhead(steps.size);
            case 6: return racks.countAll();
            case 7: return seen.size;
            case 8: return page.size;
            case 9: return readings;
            default: return OUTSIDE;
        }
    }

    public long digest() {
        long h = digestOfShapes(digestOfSteps(1447L));
        for (int kind = 0; kind < KINDS; kind++) {
            for (int number = 0; number < MOST_RACKED; number++) h = 31 * h + racked(kind, number);
        }
        for (int i = 0; i < page.size; i++) h = 31 * h + page.letters[i];
        for (int what = 0; what < COUNTS; what++) h = 31 * h + count(what);
        return h;
    }

    private long digestOfSteps(long start) {
        long h = start;
        for (int i = 0; i < steps.size; i++) {
            for (int what = 0; what < TOLD_OF_STEP; what++) h = 31 * h + step(i, what);
        }
        return h;
    }

    /** Without a program there is no last step, so that nothing lies behind it either. */
    private long digestOfShapes(long start) {
        if (steps.size == 0) return start;
        long h = start;
        for (int i = 0; i <= steps.size; i++) {
            h = 31 * h + points(i);
            h = 31 * h + bound(i, 0, 2);
            h = 31 * h + bound(i, 1, 4);
            h = 31 * h + bound(i, 5, 5);
            h = 31 * h + share(i);
        }
        return h;
    }

    private void runAgain() {
        racks.clear();
        run.begin();
        for (int i = 0; i < steps.size; i++) {
            if (steps.kinds[i] == LOOP) {
                run.goRound(steps, steps.firsts[i], i);
            } else {
                run.doStep(steps, i);
            }
        }
    }

    private boolean isStep(int step) {
        return step >= 0 && step < steps.size;
    }

    /** Without a program there is no last step either, so that 0 names nothing then. */
    private boolean hasShape(int step) {
        return steps.size > 0 && step >= 0 && step <= steps.size;
    }

    private boolean isIdle(int step) {
        return steps.kinds[step] != LOOP && run.changesNothing(step);
    }

    private int countDead() {
        int dead = 0;
        for (int i = 0; i < steps.size; i++) dead += asInt(run.isDead(i));
        return dead;
    }

    private int countIdle() {
        int idle = 0;
        for (int i = 0; i < steps.size; i++) idle += asInt(isIdle(i));
        return idle;
    }

    private static boolean canBePut(int kind, int one, int other, int by) {
        if (!isKind(kind) || kind == LOOP) return false;
        int firsts = kind == TEST ? SIGNED : NUMBERS;
        if (one < 0 || one >= firsts) return false;
        if (hasSecond(kind) && !isSigned(other)) return false;
        return !hasNumber(kind) || isBy(by);
    }

    private static boolean isKind(int kind) {
        return kind >= 0 && kind < KINDS;
    }

    private static boolean isSigned(int signed) {
        return signed >= 0 && signed < SIGNED;
    }

    private static boolean isNumber(int number) {
        return number >= -GREATEST && number <= GREATEST;
    }

    private static boolean isBy(int by) {
        return by >= -GREATEST_BY && by <= GREATEST_BY;
    }

    private static boolean hasSecond(int kind) {
        return kind == TEST || kind == SET;
    }

    private static boolean hasNumber(int kind) {
        return kind == TEST || kind == SET || kind == MOVE;
    }

    /** Kind 0 is the step itself, which all are. */
    private static boolean isSuch(int kind, int wanted) {
        return wanted == TEST || kind == wanted || (wanted == SET && kind == MOVE);
    }

    private static int asInt(boolean yes) {
        return yes ? 1 : 0;
    }

    /** The question that leaves fewest sorts whichever way it is answered. */
    private static int questionFor(int sorts) {
        if (sorts == 0) return NONE;
        int best = NONE;
        int fewest = KINDS + 1;
        for (int what = 0; what < QUESTIONS; what++) {
            int ifSo = Integer.bitCount(sorts & Seen.COULD[what]);
            int ifNot = Integer.bitCount(sorts & ~Seen.COULD[what]);
            int worst = Math.max(ifSo, ifNot);
            if (worst < fewest) {
                fewest = worst;
                best = what;
            }
        }
        return best;
    }

    /**
     * The bits are made by long division, as the library's way from a double to its bits is not
     * to be used. 4913 is odd, so that what is left is never just half of it: no tie to round.
     */
    private static long shareBits(int points) {
        if (points <= 0) return 0L;
        int rest = points;
        long exponent = 1023;
        for (int i = 0; i < 13 && rest < POINTS_IN_ALL; i++) {
            rest *= 2;
            exponent--;
        }
        rest -= POINTS_IN_ALL;
        long fraction = 0L;
        for (int i = 0; i < 52; i++) {
            rest *= 2;
            fraction *= 2;
            if (rest >= POINTS_IN_ALL) {
                rest -= POINTS_IN_ALL;
                fraction++;
            }
        }
        long bits = (exponent << 52) + fraction;
        return 2 * rest > POINTS_IN_ALL ? bits + 1 : bits;
    }

    /** The letters that wait to be read as a program. */
    private static final class Page {
        private final int[] letters = new int[MOST_LETTERS];
        private int size;

        void append(int code) {
            letters[size] = code;
            size++;
        }
    }

    /** The steps of a program; a loop's first digit is the step that it goes back to. */
    private static final class Steps {
        private final int[] kinds = new int[MOST_STEPS];
        private final int[] firsts = new int[MOST_STEPS];
        private final int[] seconds = new int[MOST_STEPS];
        private final int[] numbers = new int[MOST_STEPS];
        private int size;

        void copy(Steps from) {
            size = from.size;
            System.arraycopy(from.kinds, 0, kinds, 0, MOST_STEPS);
            System.arraycopy(from.firsts, 0, firsts, 0, MOST_STEPS);
            System.arraycopy(from.seconds, 0, seconds, 0, MOST_STEPS);
            System.arraycopy(from.numbers, 0, numbers, 0, MOST_STEPS);
        }

        void insert(int place, int kind, int first, int second, int number) {
            for (int i = size; i > place; i--) {
                copyStep(i - 1, i);
                if (kinds[i] == LOOP && firsts[i] > place) firsts[i]++;
            }
            kinds[place] = kind;
            firsts[place] = first;
            seconds[place] = second;
            numbers[place] = number;
            size++;
        }

        void remove(int place) {
            size--;
            for (int i = place; i < size; i++) {
                copyStep(i + 1, i);
                if (kinds[i] == LOOP && firsts[i] > place) firsts[i]--;
            }
        }

        private void copyStep(int from, int to) {
            kinds[to] = kinds[from];
            firsts[to] = firsts[from];
            seconds[to] = seconds[from];
            numbers[to] = numbers[from];
        }

        /** Without this step the loop right behind it would go back to itself. */
        boolean isAllOfALoop(int step) {
            int next = step + 1;
            return next < size && kinds[next] == LOOP && firsts[next] == step;
        }

        int behindLastLoop() {
            int behind = 0;
            for (int i = 0; i < size; i++) {
                if (kinds[i] == LOOP) behind = i + 1;
            }
            return behind;
        }

        int countLoops() {
            int loops = 0;
            for (int i = 0; i < size; i++) {
                if (kinds[i] == LOOP) loops++;
            }
            return loops;
        }
    }

    /** Reads a page letter by letter, and knows at each one whether a program can have it there. */
    private static final class Reader {
        private static final String KIND_LETTERS = "tsfaw";

        private final Steps read = new Steps();
        private int kind;
        private int place;
        private int first;
        private int second;
        private int number;
        private boolean below;

        int faultOf(Page page) {
            read.size = 0;
            kind = NONE;
            for (int i = 0; i < page.size; i++) {
                if (!accepts(page.letters[i])) return i;
            }
            return page.size;
        }

        boolean atAnEnd() {
            return kind != NONE && place == formOf(kind).length();
        }

        private boolean accepts(int code) {
            if (kind == NONE) return beginsStep(code);
            String form = formOf(kind);
            if (place >= form.length()) return goesOn(code);
            char due = form.charAt(place);
            if (!fits(due, code)) return false;
            keep(due, code);
            place++;
            if (place == form.length()) read.insert(read.size, kind, first, second, number);
            return true;
        }

        /** A loop needs a step behind the last loop to go back to, else its letter is wrong. */
        private boolean beginsStep(int code) {
            int letterKind = KIND_LETTERS.indexOf((char) code);
            if (letterKind < 0) return false;
            if (letterKind == LOOP && read.behindLastLoop() >= read.size) return false;
            kind = letterKind;
            place = 0;
            first = NONE;
            second = NONE;
            number = 0;
            below = false;
            return true;
        }

        private boolean goesOn(int code) {
            if (code != ',' || read.size >= MOST_STEPS) return false;
            kind = NONE;
            return true;
        }

        /** What comes behind a kind's letter: x signed, n number, + sign, d digit, k step. */
        private static String formOf(int kind) {
            switch (kind) {
                case TEST: return "xx+d";
                case SET: return "nx+d";
                case LOSE: return "n";
                case MOVE: return "n+d";
                default: return "k";
            }
        }

        private boolean fits(char due, int code) {
            int digit = code - '0';
            switch (due) {
                case 'x': return isSigned(digit);
                case 'n': return digit >= 0 && digit < NUMBERS;
                case 'd': return digit >= 0 && digit <= GREATEST_BY;
                case 'k': return digit >= read.behindLastLoop() && digit < read.size;
                default: return code == '+' || code == '-';
            }
        }

        private void keep(char due, int code) {
            int digit = code - '0';
            if (due == '+') {
                below = code == '-';
            } else if (due == 'd') {
                number = below ? -digit : digit;
            } else if (place == 0) {
                first = digit;
            } else {
                second = digit;
            }
        }
    }

    /** Points, told by the greatest sum of each two signed ones; closed unless it is said. */
    private static final class Shape {
        private final int[] bounds = new int[SIGNED * SIGNED];
        private boolean empty;

        void fill() {
            empty = false;
            Arrays.fill(bounds, GREATEST_SUM);
            for (int one = 0; one < SIGNED; one++) bounds[one * SIGNED + (one ^ 1)] = 0;
        }

        void copy(Shape from) {
            empty = from.empty;
            System.arraycopy(from.bounds, 0, bounds, 0, SIGNED * SIGNED);
        }

        int boundOf(int one, int other) {
            return bounds[one * SIGNED + other];
        }

        private void setBound(int one, int other, int bound) {
            bounds[one * SIGNED + other] = bound;
            bounds[other * SIGNED + one] = bound;
        }

        /** Leaves the bounds open: close() is due. */
        void limit(int one, int other, int most) {
            if (most < boundOf(one, other)) setBound(one, other, most);
        }

        /**
         * Makes each bound as small as it can be for whole numbers: the sums of chains first, then
         * twice a number made even, then the halves of two such. This order needs no second go.
         */
        void close() {
            if (empty) return;
            for (int by = 0; by < SIGNED; by++) chainBy(by);
            for (int one = 0; one < SIGNED; one++) {
                if (boundOf(one, one ^ 1) < 0) empty = true;
                setBound(one, one, boundOf(one, one) & ~1);
            }
            for (int one = 0; one < SIGNED; one += 2) {
                if (boundOf(one, one) + boundOf(one + 1, one + 1) < 0) empty = true;
            }
            for (int one = 0; one < SIGNED; one++) {
                for (int other = 0; other < one; other++) {
                    limit(one, other, (boundOf(one, one) + boundOf(other, other)) / 2);
                }
            }
        }

        private void chainBy(int by) {
            for (int one = 0; one < SIGNED; one++) {
                int ahead = boundOf(one, by);
                for (int other = 0; other < SIGNED; other++) {
                    int chained = ahead + boundOf(by ^ 1, other);
                    if (chained < boundOf(one, other)) bounds[one * SIGNED + other] = chained;
                }
            }
        }

        /**
         * Leaves the bounds open: close() is due. What the other numbers owe to this one stays with
         * them, as the bounds were closed.
         */
        void lose(int number) {
            int up = 2 * number;
            for (int signed = up; signed <= up + 1; signed++) {
                for (int other = 0; other < SIGNED; other++) {
                    if (other != (signed ^ 1)) setBound(signed, other, GREATEST_SUM);
                }
            }
        }

        /** Leaves the bounds open: close() is due. */
        void assign(int number, int signed, int by) {
            int up = 2 * number;
            if (signed == up + 1) turn(number);
            if (signed / 2 == number) {
                shift(number, by);
            } else {
                lose(number);
                limit(up, signed ^ 1, by);
                limit(up + 1, signed, -by);
            }
        }

        private void turn(int number) {
            int up = 2 * number;
            int down = up + 1;
            int greatest = boundOf(up, up);
            setBound(up, up, boundOf(down, down));
            setBound(down, down, greatest);
            for (int other = 0; other < SIGNED; other++) {
                if (other / 2 == number) continue;
                int above = boundOf(up, other);
                setBound(up, other, boundOf(down, other));
                setBound(down, other, above);
            }
        }

        private void shift(int number, int by) {
            int up = 2 * number;
            int down = up + 1;
            for (int other = 0; other < SIGNED; other++) {
                if (other / 2 == number) continue;
                setBound(up, other, boundOf(up, other) + by);
                setBound(down, other, boundOf(down, other) - by);
            }
            setBound(up, up, Math.min(boundOf(up, up) + 2 * by, GREATEST_SUM));
            setBound(down, down, Math.min(boundOf(down, down) - 2 * by, GREATEST_SUM));
        }

        /** The greater ones of closed bounds are closed themselves. */
        void join(Shape other) {
            if (other.empty) return;
            if (empty) {
                copy(other);
                return;
            }
            for (int i = 0; i < bounds.length; i++) bounds[i] = Math.max(bounds[i], other.bounds[i]);
        }

        void meet(Shape other) {
            empty = empty || other.empty;
            for (int i = 0; i < bounds.length; i++) bounds[i] = Math.min(bounds[i], other.bounds[i]);
            close();
        }

        /** Leaves the bounds open, for they are raw ones. */
        void widen(Shape next) {
            if (empty) {
                copy(next);
                return;
            }
            for (int i = 0; i < bounds.length; i++) {
                if (bounds[i] < next.bounds[i]) bounds[i] = GREATEST_SUM;
            }
        }

        boolean isWithin(Shape other) {
            if (empty || other.empty) return empty;
            for (int i = 0; i < bounds.length; i++) {
                if (bounds[i] > other.bounds[i]) return false;
            }
            return true;
        }

        boolean contains(int x0, int x1, int x2) {
            return !empty && containsPair(x0, x1)
                    && x2 <= roomFor(4, x0, x1) && -x2 <= roomFor(5, x0, x1);
        }

        int countPoints() {
            if (empty) return 0;
            int points = 0;
            for (int x0 = -GREATEST; x0 <= GREATEST; x0++) {
                for (int x1 = -GREATEST; x1 <= GREATEST; x1++) {
                    if (!containsPair(x0, x1)) continue;
                    points += Math.max(0, roomFor(4, x0, x1) + roomFor(5, x0, x1) + 1);
                }
            }
            return points;
        }

        private boolean containsPair(int x0, int x1) {
            return 2 * x0 <= boundOf(0, 0) && -2 * x0 <= boundOf(1, 1)
                    && 2 * x1 <= boundOf(2, 2) && -2 * x1 <= boundOf(3, 3)
                    && x0 + x1 <= boundOf(0, 2) && x0 - x1 <= boundOf(0, 3)
                    && x1 - x0 <= boundOf(1, 2) && -x0 - x1 <= boundOf(1, 3);
        }

        /** The greatest value of X2 (4), or of it with the other sign (5), beside two numbers. */
        private int roomFor(int signed, int x0, int x1) {
            int byFirst = Math.min(boundOf(signed, 0) - x0, boundOf(signed, 1) + x0);
            int bySecond = Math.min(boundOf(signed, 2) - x1, boundOf(signed, 3) + x1);
            return Math.min(boundOf(signed, signed) / 2, Math.min(byFirst, bySecond));
        }
    }

    /** The shapes along a program: ahead of each step, and behind the last one. */
    private static final class Run {
        /** Each round makes one of 36 bounds greatest, so that no loop comes near this. */
        private static final int MOST_ROUNDS = 1000;

        private final Shape[] ahead = new Shape[MOST_STEPS + 1];
        private final int[] counted = new int[MOST_STEPS + 1];
        private final Shape first = new Shape();
        private final Shape next = new Shape();
        private final Shape raw = new Shape();
        private int rounds;

        Run() {
            for (int i = 0; i <= MOST_STEPS; i++) ahead[i] = new Shape();
        }

        void begin() {
            rounds = 0;
            Arrays.fill(counted, NONE);
            ahead[0].fill();
        }

        void doStep(Steps steps, int step) {
            Shape shape = ahead[step + 1];
            shape.copy(ahead[step]);
            if (shape.empty) return;
            int one = steps.firsts[step];
            switch (steps.kinds[step]) {
                case TEST: shape.limit(one, steps.seconds[step], steps.numbers[step]); break;
                case SET: shape.assign(one, steps.seconds[step], steps.numbers[step]); break;
                case LOSE: shape.lose(one); break;
                case MOVE: shape.assign(one, 2 * one, steps.numbers[step]); break;
                default: break;
            }
            shape.close();
        }

        void goRound(Steps steps, int start, int loop) {
            Shape top = ahead[start];
            Shape back = ahead[loop];
            first.copy(top);
            raw.copy(top);
            for (int i = 0; i < MOST_ROUNDS; i++) {
                for (int step = start; step < loop; step++) doStep(steps, step);
                next.copy(top);
                next.join(back);
                if (next.isWithin(top)) break;
                rounds++;
                raw.widen(next);
                top.copy(raw);
                top.close();
            }
            top.copy(first);
            top.join(back);
            for (int step = start; step < loop; step++) doStep(steps, step);
            ahead[loop + 1].copy(top);
        }

        int pointsAhead(int step) {
            if (counted[step] == NONE) counted[step] = ahead[step].countPoints();
            return counted[step];
        }

        boolean isDead(int step) {
            return ahead[step].empty;
        }

        boolean kills(int step) {
            return !ahead[step].empty && ahead[step + 1].empty;
        }

        boolean changesNothing(int step) {
            Shape before = ahead[step];
            Shape behind = ahead[step + 1];
            return !before.empty && before.isWithin(behind) && behind.isWithin(before);
        }
    }

    /** For each kind a rack of three places, which holds steps by their numbers. */
    private static final class Racks {
        private final int[] places = new int[KINDS * MOST_RACKED];
        private final int[] sizes = new int[KINDS];

        void clear() {
            Arrays.fill(sizes, 0);
        }

        int lay(int kind, int step) {
            places[kind * MOST_RACKED + sizes[kind]] = step;
            sizes[kind]++;
            return sizes[kind];
        }

        int stepAt(int kind, int number) {
            return number < sizes[kind] ? places[kind * MOST_RACKED + number] : NONE;
        }

        int countAll() {
            int all = 0;
            for (int kind = 0; kind < KINDS; kind++) all += sizes[kind];
            return all;
        }
    }

    /** What was seen of steps, each by the number that it had when it was seen. */
    private static final class Seen {
        /** For each question, the kinds of which the answer is yes, as bits. */
        private static final int[] COULD = {0b11011, 0b01110, 0b10100, 0b10000};
        private static final int ALL_KINDS = 0b11111;

        private final int[] steps = new int[MOST_SEEN];
        private final int[] sorts = new int[MOST_SEEN];
        private int size;

        void append(int step, int what, boolean could) {
            steps[size] = step;
            sorts[size] = could ? COULD[what] : ALL_KINDS & ~COULD[what];
            size++;
        }

        void copy(Seen from) {
            size = from.size;
            System.arraycopy(from.steps, 0, steps, 0, MOST_SEEN);
            System.arraycopy(from.sorts, 0, sorts, 0, MOST_SEEN);
        }

        int sortsOf(int step) {
            int left = ALL_KINDS;
            for (int i = 0; i < size; i++) {
                if (steps[i] == step) left &= sorts[i];
            }
            return left;
        }
    }

    /** Draws by a seed. */
    private static final class Draws {
        private int seed;

        private int draw(int of) {
            seed = (int) ((1103515245L * seed + 12345L) & 0x7fffffffL);
            return Math.floorMod(seed / 65536, of);
        }

        /** All tests at once leave the same points as one behind the other. */
        void shapeOfFourTests(Shape shape) {
            shape.fill();
            for (int i = 0; i < 4; i++) {
                int one = draw(SIGNED);
                int other = draw(SIGNED);
                int most = draw(12) - 4;
                shape.limit(one, other, most);
            }
            shape.close();
        }
    }
}
