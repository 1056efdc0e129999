import java.util.ArrayList;
import java.util.List;
import java.util.regex.MatchResult;
import java.util.regex.Matcher;
import java.util.regex.Pattern;

/** A run of calls on one new object, each written as it is called with the answer that is due: "thing(-1)=0 all()=0". */
final class Run {
    private static final Pattern CALL = Pattern.compile("\\s*(\\w+)\\(([^)]*)\\)=(-?\\d+)");
    /** An object is used for no more: what later calls answer is free. */
    private static final int MOST_CALLS = 512;
    private static int wrong = 0;

    private final String title;
    private final FinedAlike x = new FinedAlike();
    private int calls = 0;

    Run(String title) {
        this.title = title;
    }

    /** A sentence of the document, and calls on a new object that would go wrong, were it broken. */
    static Run holds(String sentence, String calls) {
        return new Run(sentence).go(calls);
    }

    Run go(String calls) {
        for (MatchResult call : parted(calls)) go(call);
        return this;
    }

    private void go(MatchResult call) {
        due(call.group(1), numbers(call.group(2)), Long.parseLong(call.group(3)));
    }

    private static List<MatchResult> parted(String calls) {
        List<MatchResult> all = new ArrayList<>();
        Matcher m = CALL.matcher(calls);
        int end = 0;
        while (m.find() && m.start() == end) {
            all.add(m.toMatchResult());
            end = m.end();
        }
        if (!calls.substring(end).isBlank()) throw new IllegalArgumentException(calls.substring(end));
        return all;
    }

    Run times(int n, String calls) {
        for (int i = 0; i < n; i++) go(calls);
        return this;
    }

    /** Calls that are refused: each changes nothing but how many were refused for its reason. */
    Run refused(String calls) {
        for (MatchResult call : parted(calls)) {
            long answer = Long.parseLong(call.group(3));
            int reason = answer == FinedAlike.NO ? 1 : answer == FinedAlike.FULL ? 2 : 0;
            long[] were = {ask("status", 0), ask("status", 1), ask("status", 2), ask("digest")};
            were[reason]++;
            go(call);
            for (int what = 0; what < 3; what++) due("status", new long[] {what}, were[what]);
            due("digest", new long[0], were[3]);
        }
        return this;
    }

    /** These calls leave all as it is that the digest tells. */
    Run leaves(String calls) {
        long was = ask("digest");
        go(calls);
        due("digest", new long[0], was);
        return this;
    }

    /** The text is this one. */
    Run text(String text) {
        ask("clear");
        for (int i = 0; i < text.length(); i += 8) {
            String part = text.substring(i, Math.min(text.length(), i + 8));
            due("type", new long[] {Calls.packed(part), part.length()}, i + part.length());
        }
        return this;
    }

    /** The digest is that of these numbers. */
    Run digest(long... all) {
        long h = 751;
        for (long v : all) h = 31 * h + v;
        due("digest", new long[0], h);
        return this;
    }

    private void due(String method, long[] a, long want) {
        long got = ask(method, a);
        if (got == want) return;
        wrong++;
        System.out.println(title + ": " + Calls.shown(method, a) + " answered " + got + ", due is " + want);
    }

    private long ask(String method, long... a) {
        if (++calls > MOST_CALLS) throw new IllegalStateException(title + ": more calls than an object is used for");
        return Calls.call(x, method, a);
    }

    private static long[] numbers(String text) {
        if (text.isBlank()) return new long[0];
        String[] parts = text.split(",");
        long[] all = new long[parts.length];
        for (int i = 0; i < parts.length; i++) all[i] = Long.parseLong(parts[i].trim());
        return all;
    }

    static void end() {
        if (wrong != 0) System.exit(1);
    }
}
