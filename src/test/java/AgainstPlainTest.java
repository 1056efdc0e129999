import java.util.ArrayList;
import java.util.List;
import java.util.Random;

/** Long runs of calls, by fixed seeds: FinedAlike and PlainTown must answer each one alike. */
public final class AgainstPlainTest {
    private static final int RUNS = 120;
    private static final int CALLS = 120;
    private static final String[] WORDS = {"thing", "people", "hours", "hour", "line", "rich", "does", "need"};

    private final Random random;
    private final FinedAlike one = new FinedAlike();
    private final PlainTown other = new PlainTown();
    private final List<String> calls = new ArrayList<>();
    private int wrong;

    private AgainstPlainTest(long seed) {
        random = new Random(seed);
    }

    public static void main(String[] args) {
        int runs = args.length > 0 ? Integer.parseInt(args[0]) : RUNS;
        int first = args.length > 1 ? Integer.parseInt(args[1]) : 0;
        int wrong = 0;
        for (int seed = first; seed < first + runs && wrong < 5; seed++) {
            wrong += new AgainstPlainTest(seed).run();
        }
        if (wrong != 0) System.exit(1);
    }

    private int run() {
        begin();
        for (int i = 0; i < CALLS && wrong == 0; i++) {
            change();
            if (random.nextInt(3) == 0) ask();
            if (random.nextInt(12) == 0) askAll();
            both("digest");
        }
        for (int what = 0; what <= 3; what++) both("status", what);
        return wrong;
    }

    private void both(String method, long... a) {
        long want = other.call(method, a);
        long got = Calls.call(one, method, a);
        calls.add(Calls.shown(method, a) + " = " + got);
        if (got != want && wrong++ == 0) {
            for (String call : calls) System.out.println(call);
            System.out.println("  .. the last one's due answer is " + want);
        }
    }

    private int in(int low, int high) {
        return low + random.nextInt(high - low + 1);
    }

    /** Mostly a number from low to high, at times one just outside. */
    private int near(int low, int high) {
        if (random.nextInt(25) > 0 && high >= low) return in(low, high);
        if (random.nextInt(4) == 0) return random.nextBoolean() ? Integer.MIN_VALUE : Integer.MAX_VALUE;
        return in(low - 2, high + 2);
    }

    private int things() {
        return one.count(0);
    }

    private void begin() {
        if (random.nextInt(4) > 0) {
            both("town", in(1, 5), in(1, 5));
        }
        int n = random.nextInt(8);
        for (int i = 0; i < n; i++) both("thing", near(-1, things() - 1));
        if (random.nextBoolean()) both("put", 1, 0, in(0, 4));
        if (random.nextInt(3) > 0 && things() > 0) fill();
    }

    /** A busy town, in which much is fined. */
    private void fill() {
        int people = one.count(1), hours = one.count(2);
        int few = Math.min(things(), in(1, 4));
        for (int h = 0; h < hours; h++) {
            both("put", 0, h, in(0, 5));
            for (int p = 0; p < people; p++) both("does", p, h, in(-1, few - 1));
        }
        for (int p = 0; p < people; p++) {
            for (int i = in(0, 2); i > 0; i--) both("need", p, in(0, few - 1), in(0, 3));
        }
        both("put", 2, 0, in(0, people - 1));
        askAll();
    }

    private void change() {
        int people = one.count(1), hours = one.count(2);
        switch (random.nextInt(22)) {
            case 0: both("thing", near(-1, things() - 1)); break;
            case 1: if (random.nextInt(6) == 0) both("town", near(1, 5), near(1, 5)); else if (random.nextInt(3) == 0 && things() > 0) fill(); break;
            case 2: case 3: case 4: both("put", 0, near(0, hours - 1), near(0, 5)); break;
            case 5: both("put", near(1, 2), near(0, 0), in(0, 4)); break;
            case 6: both("undo"); break;
            case 7: case 8: case 9: both("need", near(0, people - 1), near(0, things() - 1), in(0, 2)); break;
            case 10: both("need", near(0, people - 1), near(0, things() - 1), near(0, 5)); break;
            case 11: case 12: both("told", near(0, people - 1), near(0, random.nextInt(4) == 0 ? 40 : 4)); break;
            case 13: if (random.nextInt(4) == 0) readText(); break;
            case 14: both("image", near(0, 1)); break;
            case 15: both("from", near(0, 1)); break;
            case 16: payAsDone(); break;
            default: both("does", near(0, people - 1), near(0, hours - 1), near(-1, things() - 1));
        }
    }

    /** What is told is what is paid, so that there is a way. */
    private void payAsDone() {
        int hour = in(0, one.count(2) - 1);
        for (int p = 0; p < one.count(1); p++) both("told", p, one.pays(p, hour));
        for (int p = -1; p < one.count(1); p++) both("did", hour, p);
    }

    private void ask() {
        int people = one.count(1), hours = one.count(2);
        int p = near(0, people - 1), h = near(0, hours - 1), t = near(0, things() - 1);
        switch (random.nextInt(17)) {
            case 0: both("at", t); break;
            case 1: both("pays", p, h); break;
            case 2: both("all"); break;
            case 3: both("least", near(-1, people - 1), h); break;
            case 4: both("fewest"); break;
            case 5: both("list", near(0, 1)); break;
            case 6: both("rests", near(0, 1)); break;
            case 7: both("better", p, h); break;
            case 8: both("name", t); break;
            case 9: both("line", p); break;
            case 10: both("choir", t, near(1, people)); break;
            case 11: both("did", h, near(-1, people - 1)); break;
            case 12: both("copied", p); break;
            case 13: both("crowd", near(1, 18), near(1, 9), near(0, 9)); both("part", near(0, 1)); break;
            case 14: both("count", near(0, 4)); break;
            case 15: both("status", near(0, 2)); break;
            default: both("type", random.nextLong(), near(1, 8));
        }
    }

    private void askAll() {
        int people = one.count(1), hours = one.count(2);
        both("least", -1, 0);
        both("fewest");
        for (int p = 0; p < people; p++) {
            both("line", p);
            both("copied", p);
            both("choir", 0, p + 1);
            for (int h = 0; h < hours; h++) {
                both("pays", p, h);
                both("better", p, h);
                if (random.nextInt(4) == 0) both("least", p, h);
            }
        }
        for (int t = 0; t < things(); t++) {
            both("at", t);
            both("name", t);
        }
        for (int what = 0; what < 2; what++) {
            both("list", what);
            both("rests", what);
        }
        both("all");
        both("did", in(0, hours - 1), -1);
    }

    private void readText() {
        both("clear");
        StringBuilder text = new StringBuilder();
        int items = random.nextInt(22);
        int things = 0, people = 3, hours = 4;
        for (int i = 0; i < items; i++) {
            int kind = i < 4 || random.nextInt(5) == 0 ? 0 : in(3, 7);
            if (i >= 4 && i < 6 && random.nextBoolean()) kind = in(1, 2);
            if (random.nextInt(60) == 0) kind = in(0, 7);
            text.append(WORDS[kind]);
            int n = in(1, 5);
            switch (kind) {
                case 0: if (things > 0 && random.nextBoolean()) text.append(' ').append(near(0, things - 1)); things++; break;
                case 1: text.append(' ').append(people = n); break;
                case 2: text.append(' ').append(hours = n); break;
                case 3: text.append(' ').append(near(0, hours - 1)).append(' ').append(near(0, 5)); break;
                case 4: text.append(' ').append(near(0, 4)); break;
                case 5: text.append(' ').append(near(0, people - 1)); break;
                case 6: text.append(' ').append(near(0, people - 1)).append(' ').append(near(0, hours - 1)).append(' ').append(near(0, things - 1)); break;
                default: text.append(' ').append(near(0, people - 1)).append(' ').append(near(0, things - 1)).append(' ').append(in(0, 2));
            }
            text.append(random.nextInt(40) == 0 ? " " : ";");
            if (random.nextInt(9) == 0) text.append("   ");
        }
        if (random.nextInt(3) == 0 && text.length() > 0) spoil(text);
        typeAll(text.toString());
        both("read");
    }

    private void spoil(StringBuilder text) {
        String signs = "az09 ;-{`/:A\u0000\u00ff\n";
        int place = random.nextInt(text.length());
        char sign = signs.charAt(random.nextInt(signs.length()));
        switch (random.nextInt(4)) {
            case 0: text.setCharAt(place, sign); break;
            case 1: text.insert(place, sign); break;
            case 2: text.deleteCharAt(place); break;
            default: text.setLength(place);
        }
    }

    private void typeAll(String text) {
        for (int i = 0; i < text.length(); ) {
            int n = Math.min(in(1, 8), text.length() - i);
            both("type", Calls.packed(text.substring(i, i + n)), n);
            i += n;
        }
    }
}
