import java.io.IOException;
import java.lang.reflect.Modifier;
import java.nio.file.Files;
import java.nio.file.Path;
import java.util.ArrayList;
import java.util.List;
import java.util.Map;
import java.util.TreeMap;
import java.util.regex.Matcher;
import java.util.regex.Pattern;
import java.util.stream.Stream;

/** The rules of LANGUAGE.md that a plain look at the source can hold. */
public final class SourceTest {
    private static final Path SOURCE = Path.of("src/main/java/FinedAlike.java");
    private static final String[] FORBIDDEN = {
        "\\b(throw|throws|try|catch|synchronized|assert|package|volatile|transient|native)\\b", "->", "::", "Exact\\b",
        "\\b(protected)\\b", "\\b(equals|hashCode|toString)\\s*\\(", "\\bstatic\\s*\\{", "\\b(Object|Random|Thread|System\\.(out|err|nanoTime|currentTimeMillis))\\b",
        "\\b(Integer|Long)\\.[A-Z]", "\\b(var|record|yield)\\b", "@",
    };

    private static final int MOST_LINES = 60;
    private static final int MOST_PARAMETERS = 7;
    private static final int MOST_DEEP = 8;
    private static final int MOST_CLASSES = 12;
    private static final int MOST_FIELDS = 20;

    private static int wrong = 0;

    public static void main(String[] args) throws IOException {
        String source = Files.readString(SOURCE);
        String code = withoutComments(source);
        for (String forbidden : FORBIDDEN) {
            Matcher m = Pattern.compile(forbidden).matcher(code);
            if (m.find()) say("'" + m.group() + "' in line " + lineOf(code, m.start()));
        }
        imports(code);
        newOnlyInFieldsAndConstructors(code);
        classes();
        calls(methods(code));
        if (wrong != 0) System.exit(1);
    }

    private static void say(String what) {
        wrong++;
        System.out.println("FinedAlike.java: " + what);
    }

    private static int lineOf(String code, int place) {
        return (int) code.substring(0, place).chars().filter(c -> c == '\n').count() + 1;
    }

    /** Comments and texts are blanked, with lines kept. */
    private static String withoutComments(String source) {
        Matcher m = Pattern.compile("/\\*.*?\\*/|//[^\n]*|\"[^\"\n]*\"", Pattern.DOTALL).matcher(source);
        return m.replaceAll(r -> r.group().replaceAll("[^\n]", " "));
    }

    private static void imports(String code) {
        Matcher m = Pattern.compile("import ([^;]+);").matcher(code);
        while (m.find()) {
            if (!List.of("java.util.Arrays", "java.util.ArrayList", "java.util.List", "java.util.Iterator").contains(m.group(1))) say("import " + m.group(1));
        }
    }

    /** One room for all calls of a run: no call may make anything. */
    private static void newOnlyInFieldsAndConstructors(String code) {
        String[] lines = code.split("\n", -1);
        boolean inConstructor = false;
        for (int i = 0; i < lines.length; i++) {
            if (lines[i].matches("\\s+(public )?[A-Z]\\w+\\([^)]*\\) \\{")) inConstructor = true;
            else if (lines[i].matches(" {4}( {4})?\\}")) inConstructor = false;
            boolean field = lines[i].matches(" {4}( {4})?(private )?final .*= new .*;");
            if (lines[i].matches(".*\\bnew\\b.*") && !field && !inConstructor) say("an object is made in line " + (i + 1));
        }
    }

    /** The body of each method by its name: those of one name in two classes are taken together. */
    private static Map<String, String> methods(String code) {
        Pattern head = Pattern.compile("(?m)^( {4}| {8})(?:[\\w\\[\\]]+ )*(\\w+)\\(([^)]*)\\) \\{$");
        Matcher m = head.matcher(code);
        Map<String, String> bodies = new TreeMap<>();
        while (m.find()) {
            int end = code.indexOf("\n" + m.group(1) + "}", m.end());
            int lines = lineOf(code, end + 1) - lineOf(code, m.start()) + 1;
            if (lines > MOST_LINES) say(m.group(2) + " has " + lines + " lines");
            if (!m.group(3).isBlank() && m.group(3).split(",").length > MOST_PARAMETERS) say(m.group(2) + " has too many parameters");
            bodies.merge(m.group(2), code.substring(m.end(), end), String::concat);
        }
        if (bodies.size() < 31) say("only " + bodies.size() + " methods were seen: this test must be mended");
        return bodies;
    }

    private static void calls(Map<String, String> bodies) {
        for (String name : bodies.keySet()) goDeeper(bodies, name, new ArrayList<>());
    }

    private static void goDeeper(Map<String, String> bodies, String name, List<String> open) {
        if (open.contains(name)) {
            say("recursion: " + open + " calls " + name);
            return;
        }
        open.add(name);
        Matcher m = Pattern.compile("\\b(\\w+)\\(").matcher(bodies.get(name));
        List<String> seen = new ArrayList<>();
        while (m.find()) {
            if (!bodies.containsKey(m.group(1)) || seen.contains(m.group(1))) continue;
            seen.add(m.group(1));
            goDeeper(bodies, m.group(1), open);
        }
        if (open.size() > MOST_DEEP) say("calls go too deep: " + open);
        open.remove(open.size() - 1);
    }

    private static void classes() {
        List<Class<?>> all = new ArrayList<>(List.of(FinedAlike.class.getDeclaredClasses()));
        all.add(FinedAlike.class);
        if (all.size() > MOST_CLASSES) say("there are " + all.size() + " classes");
        for (Class<?> one : all) {
            long fields = Stream.of(one.getDeclaredFields()).filter(f -> !Modifier.isStatic(f.getModifiers())).count();
            if (fields > MOST_FIELDS) say(one.getSimpleName() + " has " + fields + " fields");
        }
    }
}
