import java.util.function.LongSupplier;

/** What the tests share: they name a call, its answer and the one that is due. */
final class Checks {
    private static int made = 0;
    private static int wrong = 0;
    private static String sentence = "";

    private Checks() { }

    /** What is looked at from here on is for a sentence of the document: it is told with a failure. */
    static void under(String quoted) {
        sentence = "[" + quoted + "] ";
    }

    static int made() {
        return made;
    }

    static void due(String call, long got, long want) {
        made++;
        if (got == want) return;
        wrong++;
        if (wrong <= 40) System.out.println(sentence + call + " answered " + got + ", due is " + want);
    }

    /** As due, for a call that must change nothing: the digest is the same behind it. */
    static void refused(SumBounds x, String call, LongSupplier answer, long want) {
        long before = x.digest();
        due(call, answer.getAsLong(), want);
        due("digest() behind " + call, x.digest(), before);
    }

    /** Ends the test with exit code 1 if an answer was not the one that is due. */
    static void end() {
        System.out.println(made + " answers looked at, " + wrong + " not as due");
        if (made == 0 || wrong != 0) System.exit(1);
    }

    static void write(SumBounds x, String text) {
        for (int i = 0; i < text.length(); i++) x.letter(text.charAt(i));
    }

    /** A new object whose program is the text. */
    static SumBounds of(String text) {
        SumBounds x = new SumBounds();
        write(x, text);
        int steps = text.split(",").length;
        due("program() of " + text, x.program(), steps);
        return x;
    }
}
