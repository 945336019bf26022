import java.io.IOException;
import java.nio.file.Files;
import java.nio.file.Path;
import java.util.LinkedHashMap;
import java.util.Map;
import java.util.regex.Matcher;
import java.util.regex.Pattern;

/**
 * The document's sentences, each quoted by the test that holds it: so a sentence without a test, a
 * test of a sentence that is not there, and a quotation without a check are all failures.
 */
final class Sentences {
    private static final Path DOCUMENT = Path.of("../shared/DOC.md");
    private static final int PROMISES = 24;

    private final Map<String, String> sections = new LinkedHashMap<>();
    private final Map<String, boolean[]> quoted = new LinkedHashMap<>();
    private int madeBefore = -1;
    private String latest = "";

    Sentences() throws IOException {
        String all = "\n" + Files.readString(DOCUMENT);
        Matcher m = Pattern.compile("(?s)\n## ([^\n]*)\n(.*?)(?=\n## |\\z)").matcher(all);
        while (m.find()) {
            String name = m.group(1).replaceAll(":.*", "");
            String text = plain(m.group(2));
            sections.put(name, text);
            quoted.put(name, new boolean[text.length()]);
        }
    }

    /** Without what is no sentence: a call's head, the marks of parts and of blocks, the calls' groups. */
    private static String plain(String section) {
        return section.replaceAll("(?m)^```\\w*$", "").replaceAll("(?m)^Ahead of the calls .*$", "")
                .replaceAll("======== \\d ", "").replaceAll("(?m)^`[^`]*`: ", "")
                .replaceAll("\\s+", " ").trim();
    }

    /** The checks behind this call are for that sentence. */
    void says(String section, String quote) {
        checkedAnything();
        latest = section + ": " + quote;
        madeBefore = Checks.made();
        Checks.under(latest);
        int at = sections.getOrDefault(section, "").indexOf(quote);
        if (at < 0) {
            Checks.due("the sentence stands in the document", 0, 1);
            return;
        }
        boolean[] marks = quoted.get(section);
        for (int i = 0; i < quote.length(); i++) marks[at + i] = true;
    }

    private void checkedAnything() {
        if (Checks.made() == madeBefore) Checks.due("it has a check", 0, 1);
    }

    /** All that the terms and the promises say has been quoted. */
    void end() {
        checkedAnything();
        Checks.under("the document");
        allQuoted("Terms");
        for (int i = 1; i <= PROMISES; i++) allQuoted("Promise " + i);
    }

    private void allQuoted(String section) {
        Checks.due(section + " is there", sections.containsKey(section) ? 1 : 0, 1);
        String text = sections.getOrDefault(section, "");
        StringBuilder left = new StringBuilder();
        for (int i = 0; i < text.length(); i++) {
            if (!quoted.get(section)[i]) left.append(text.charAt(i));
        }
        boolean none = left.toString().isBlank();
        Checks.due(section + (none ? "" : " has no test for: " + left), none ? 1 : 0, 1);
    }
}
