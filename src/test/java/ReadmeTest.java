import java.net.URL;
import java.net.URLClassLoader;
import java.nio.file.Files;
import java.nio.file.Path;
import java.util.regex.Matcher;
import java.util.regex.Pattern;
import javax.tools.ToolProvider;

/** The Java of README.md is compiled and run: a line's comment that begins with a number tells what its call answers. */
public final class ReadmeTest {
    private static final Pattern BLOCK = Pattern.compile("```java\n(.*?)```", Pattern.DOTALL);
    private static final Pattern CALL = Pattern.compile("(int \\w+ = )?(x\\.\\w+\\(.*\\)); *// (-?\\d+)\\b.*");
    private static final String BLOCKS = "ReadmeBlocks";
    private static final int FEWEST_CALLS = 20;

    private static int calls = 0;
    private static int wrong = 0;

    public static void main(String[] args) throws Exception {
        StringBuilder source = new StringBuilder("public final class " + BLOCKS + " { public static void main(String[] args) {\n");
        Matcher block = BLOCK.matcher(Files.readString(Path.of("README.md")));
        while (block.find()) {
            source.append("{\n");
            block.group(1).lines().forEach(line -> source.append(asTest(line)).append('\n'));
            source.append("}\n");
        }
        run(source.append("} }\n").toString());
        if (calls < FEWEST_CALLS) {
            System.out.println("README.md: only " + calls + " calls were seen");
            wrong++;
        }
        if (wrong != 0) System.exit(1);
    }

    private static String asTest(String line) {
        Matcher m = CALL.matcher(line);
        if (!m.matches()) return line;
        String start = m.group(1) == null ? "" : m.group(1) + "(int) ";
        return start + "ReadmeTest.due(\"" + m.group(2) + "\", " + m.group(2) + ", " + m.group(3) + "L);";
    }

    /** Public, as the blocks are loaded apart from this class. */
    public static long due(String call, long got, long want) {
        calls++;
        if (got != want) {
            wrong++;
            System.out.println("README.md: " + call + " answered " + got + ", there it is " + want);
        }
        return got;
    }

    private static void run(String source) throws Exception {
        Path made = Files.createTempDirectory("readme");
        Path file = Files.writeString(made.resolve(BLOCKS + ".java"), source);
        try (URLClassLoader loader = new URLClassLoader(new URL[] {made.toUri().toURL()})) {
            String path = System.getProperty("java.class.path");
            if (ToolProvider.getSystemJavaCompiler().run(null, null, null, "-cp", path, "-d", made.toString(), file.toString()) == 0) {
                loader.loadClass(BLOCKS).getMethod("main", String[].class).invoke(null, (Object) new String[0]);
            } else {
                wrong++;
            }
        } finally {
            Files.deleteIfExists(made.resolve(BLOCKS + ".class"));
            Files.delete(file);
            Files.delete(made);
        }
    }
}
