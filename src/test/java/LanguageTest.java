import java.io.IOException;
import java.lang.reflect.Constructor;
import java.lang.reflect.Field;
import java.lang.reflect.Method;
import java.lang.reflect.Modifier;
import java.nio.file.Files;
import java.nio.file.Path;
import java.util.List;
import java.util.Set;
import java.util.TreeSet;
import java.util.regex.Matcher;
import java.util.regex.Pattern;

/** The rules of LANGUAGE.md that can be looked at from outside: the face, words, lengths. */
public final class LanguageTest {
    private static final Path SOURCE = Path.of("src/main/java/SumBounds.java");
    private static final Set<String> FACE = Set.of(
            "int letter(int)", "int blank()", "int fault()", "int program()", "int step(int,int)",
            "int as(int,int)", "int bound(int,int,int)", "int points(int)", "int has(int,int,int,int)",
            "long share(int)", "int compare(int,int)", "int put(int,int,int,int,int)", "int take(int)",
            "int by(int,int)", "int rack(int,int)", "int racked(int,int)", "int see(int,int,boolean)",
            "int forget()", "int drawn(int,int,int)", "int image()", "int restore()", "int count(int)",
            "long digest()");
    private static final Set<String> CONSTANTS = Set.of("NONE", "UNKNOWN", "OUTSIDE", "STATE", "FULL");
    private static final String[] NOT_THERE = {
        "throw", "throws", "try", "catch", "synchronized", "assert", "Exact\\w*", "package", "var",
        "Double", "Float", "Object", "Thread", "Random", "Runtime", "nanoTime", "currentTimeMillis",
        "hashCode", "toString", "volatile", "native", "Scanner", "Optional", "stream"};

    public static void main(String[] args) throws IOException {
        face();
        String code = withoutComments(Files.readString(SOURCE));
        words(code);
        methods(code);
        classes();
        Checks.end();
    }

    private static void is(String what, boolean so) {
        Checks.due(what, so ? 1 : 0, 1);
    }

    private static void face() {
        is("public and final", Modifier.isPublic(SumBounds.class.getModifiers())
                && Modifier.isFinal(SumBounds.class.getModifiers()));
        Set<String> open = new TreeSet<>();
        Set<String> openNames = new TreeSet<>();
        for (Method m : SumBounds.class.getDeclaredMethods()) {
            if (Modifier.isPrivate(m.getModifiers())) continue;
            is(m + " is public", Modifier.isPublic(m.getModifiers()) && !Modifier.isStatic(m.getModifiers()));
            StringBuilder types = new StringBuilder();
            for (Class<?> type : m.getParameterTypes()) types.append(types.length() > 0 ? "," : "").append(type);
            open.add(m.getReturnType() + " " + m.getName() + "(" + types + ")");
            openNames.add(m.getName());
        }
        is("the face's methods: " + open, open.equals(FACE));
        for (Class<?> inside : withInside()) {
            for (Method m : inside.getDeclaredMethods()) {
                boolean hidden = inside != SumBounds.class || Modifier.isPrivate(m.getModifiers());
                is(m + " has a name of its own", !hidden || !openNames.contains(m.getName()));
            }
        }
        Constructor<?>[] constructors = SumBounds.class.getDeclaredConstructors();
        is("one public constructor", constructors.length == 1 && Modifier.isPublic(constructors[0].getModifiers())
                && constructors[0].getParameterCount() == 0);
    }

    private static List<Class<?>> withInside() {
        List<Class<?>> all = new java.util.ArrayList<>(List.of(SumBounds.class.getDeclaredClasses()));
        all.add(SumBounds.class);
        return all;
    }

    private static void classes() {
        is("some twelve classes", withInside().size() <= 12);
        for (Class<?> c : withInside()) {
            int fields = 0;
            for (Field f : c.getDeclaredFields()) {
                boolean isStatic = Modifier.isStatic(f.getModifiers());
                is(f + " is final if it is static", !isStatic || Modifier.isFinal(f.getModifiers()));
                boolean isFace = c == SumBounds.class && CONSTANTS.contains(f.getName());
                is(f + " is private or of the face", Modifier.isPrivate(f.getModifiers()) != isFace);
                if (!isStatic) fields++;
            }
            is(c + " has some twenty fields", fields <= 20);
            is(c + " is static inside", c == SumBounds.class || Modifier.isStatic(c.getModifiers()));
            for (Method m : c.getDeclaredMethods()) is(m + " takes seven at most", m.getParameterCount() <= 7);
        }
    }

    private static String withoutComments(String source) {
        return source.replaceAll("(?s)/\\*.*?\\*/", "").replaceAll("//[^\n]*", "");
    }

    private static void words(String code) {
        for (String word : NOT_THERE) {
            is("no " + word, !Pattern.compile("\\b" + word + "\\b").matcher(code).find());
        }
        is("no lambda, no method reference", !code.contains("->") && !code.contains("::"));
        Matcher imports = Pattern.compile("import ([\\w.*]+);").matcher(code);
        while (imports.find()) is("import " + imports.group(1), imports.group(1).equals("java.util.Arrays"));
        for (int i = 0; i < code.length(); i++) is("a plain sign at " + i, code.charAt(i) < 128);
    }

    /** Methods stay short, by the lines from a head that is set in to the brace that ends it. */
    private static void methods(String code) {
        String[] lines = code.split("\n");
        Pattern head = Pattern.compile("^( {4}| {8})(?! )(?!.*\\bclass\\b)[\\w\\[\\] ]+\\([^;]*\\{$");
        for (int i = 0; i < lines.length; i++) {
            Matcher m = head.matcher(lines[i]);
            if (!m.find()) continue;
            int end = i;
            while (end < lines.length && !lines[end].equals(m.group(1) + "}")) end++;
            is(lines[i].trim() + " is short", end - i < 60);
        }
    }
}
