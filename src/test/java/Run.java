import java.util.regex.Matcher;
import java.util.regex.Pattern;

/** A run of calls on one new object, each written as it is called with the answer that is due: "thing(-1)=0 all()=0". */
final class Run {
    private static final Pattern CALL = Pattern.compile("\\s*(\\w+)\\(([^)]*)\\)=(-?\\d+)");
    private static int wrong = 0;

    private final String title;
    private final FinedAlike x = new FinedAlike();

    Run(String title) {
        this.title = title;
    }

    Run go(String calls) {
        Matcher m = CALL.matcher(calls);
        int end = 0;
        while (m.find() && m.start() == end) {
            due(m.group(1), numbers(m.group(2)), Long.parseLong(m.group(3)));
            end = m.end();
        }
        if (!calls.substring(end).isBlank()) throw new IllegalArgumentException(calls.substring(end));
        return this;
    }

    Run times(int n, String calls) {
        for (int i = 0; i < n; i++) go(calls);
        return this;
    }

    /** The text is this one. */
    Run text(String text) {
        x.clear();
        for (int i = 0; i < text.length(); i += 8) {
            String part = text.substring(i, Math.min(text.length(), i + 8));
            due("type", new long[] {Calls.packed(part), part.length()}, i + part.length());
        }
        return this;
    }

    /** The digest is that of these numbers. */
    Run digest(long... all) {
        long h = 751;
        for (long v : all) h = 31 * h + v;
        due("digest", new long[0], h);
        return this;
    }

    private void due(String method, long[] a, long want) {
        long got = Calls.call(x, method, a);
        if (got == want) return;
        wrong++;
        System.out.println(title + ": " + Calls.shown(method, a) + " answered " + got + ", due is " + want);
    }

    private static long[] numbers(String text) {
        if (text.isBlank()) return new long[0];
        String[] parts = text.split(",");
        long[] all = new long[parts.length];
        for (int i = 0; i < parts.length; i++) all[i] = Long.parseLong(parts[i].trim());
        return all;
    }

    static void end() {
        if (wrong != 0) System.exit(1);
    }
}
