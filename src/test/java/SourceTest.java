import java.io.IOException;
import java.nio.file.Files;
import java.nio.file.Path;
import java.util.ArrayList;
import java.util.List;
import java.util.regex.Matcher;
import java.util.regex.Pattern;

/** The rules of LANGUAGE.md that a plain look at the source can hold. */
public final class SourceTest {
    private static final Path SOURCE = Path.of("src/main/java/FinedAlike.java");
    private static final String[] FORBIDDEN = {
        "\\b(throw|throws|try|catch|synchronized|assert|package|volatile|transient|native)\\b", "->", "::", "Exact\\b",
        "\\b(protected)\\b", "\\b(equals|hashCode|toString)\\s*\\(", "\\bstatic\\s*\\{", "\\b(Object|Random|Thread|System\\.(out|err|nanoTime|currentTimeMillis))\\b",
        "\\b(Integer|Long)\\.[A-Z]", "\\b(var|record|yield)\\b", "@",
    };

    private static int wrong = 0;

    public static void main(String[] args) throws IOException {
        String source = Files.readString(SOURCE);
        String code = withoutComments(source);
        for (String forbidden : FORBIDDEN) {
            Matcher m = Pattern.compile(forbidden).matcher(code);
            if (m.find()) say("'" + m.group() + "' in line " + lineOf(code, m.start()));
        }
        imports(code);
        newOnlyInFieldsAndConstructors(code);
        methods(code);
        if (wrong != 0) System.exit(1);
    }

    private static void say(String what) {
        wrong++;
        System.out.println("FinedAlike.java: " + what);
    }

    private static int lineOf(String code, int place) {
        return (int) code.substring(0, place).chars().filter(c -> c == '\n').count() + 1;
    }

    /** Comments and texts are blanked, with lines kept. */
    private static String withoutComments(String source) {
        Matcher m = Pattern.compile("/\\*.*?\\*/|//[^\n]*|\"[^\"\n]*\"", Pattern.DOTALL).matcher(source);
        return m.replaceAll(r -> r.group().replaceAll("[^\n]", " "));
    }

    private static void imports(String code) {
        Matcher m = Pattern.compile("import ([^;]+);").matcher(code);
        while (m.find()) {
            if (!List.of("java.util.Arrays", "java.util.ArrayList", "java.util.List", "java.util.Iterator").contains(m.group(1))) say("import " + m.group(1));
        }
    }

    /** One room for all calls of a run: no call may make anything. */
    private static void newOnlyInFieldsAndConstructors(String code) {
        String[] lines = code.split("\n", -1);
        boolean inConstructor = false;
        for (int i = 0; i < lines.length; i++) {
            if (lines[i].matches("\\s+(public )?[A-Z]\\w+\\([^)]*\\) \\{")) inConstructor = true;
            else if (lines[i].matches(" {4}( {4})?\\}")) inConstructor = false;
            boolean field = lines[i].matches(" {4}( {4})?(private )?final .*= new .*;");
            if (lines[i].matches(".*\\bnew\\b.*") && !field && !inConstructor) say("an object is made in line " + (i + 1));
        }
    }

    private static void methods(String code) {
        Pattern head = Pattern.compile("(?m)^( {4}| {8})(?:[\\w\\[\\]]+ )*(\\w+)\\(([^)]*)\\) \\{$");
        Matcher m = head.matcher(code);
        List<String> names = new ArrayList<>();
        while (m.find()) {
            names.add(m.group(2));
            int end = code.indexOf("\n" + m.group(1) + "}", m.end());
            int lines = lineOf(code, end + 1) - lineOf(code, m.start()) + 1;
            if (lines > 60) say(m.group(2) + " has " + lines + " lines");
            if (!m.group(3).isBlank() && m.group(3).split(",").length > 7) say(m.group(2) + " has too many parameters");
        }
        if (names.size() < 31) say("only " + names.size() + " methods were seen: this test must be mended");
    }
}
