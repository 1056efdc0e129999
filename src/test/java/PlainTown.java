import java.math.BigInteger;
import java.util.ArrayDeque;
import java.util.ArrayList;
import java.util.Arrays;
import java.util.Deque;
import java.util.List;
import java.util.TreeSet;
import java.util.regex.Matcher;
import java.util.regex.Pattern;

/**
 * The document once more, told as slowly and as literally as it can be, with nothing kept and nothing cut short:
 * AgainstPlainTest holds FinedAlike against it. It shares no code with FinedAlike, so that a slip in one shows.
 */
final class PlainTown {
    static final int NONE = -1, BAD = -2, NO = -3, FULL = -4;

    /** All that an image keeps. */
    private static final class State {
        List<Integer> under = new ArrayList<>();
        int line = 4, n = 3, h = 4, rich = 0;
        int[] kind = new int[5];
        int[][] does = new int[5][5]; // person, hour
        int[][] need = new int[5][9];
        int[] told = new int[5];
        Deque<int[]> undo = new ArrayDeque<>();

        State() {
            for (int[] row : does) Arrays.fill(row, NONE);
        }

        State copy() {
            State s = new State();
            s.under = new ArrayList<>(under);
            s.line = line;
            s.n = n;
            s.h = h;
            s.rich = rich;
            s.kind = kind.clone();
            s.told = told.clone();
            for (int p = 0; p < 5; p++) {
                s.does[p] = does[p].clone();
                s.need[p] = need[p].clone();
            }
            s.undo = new ArrayDeque<>(undo);
            return s;
        }
    }

    private static final class Refused extends RuntimeException {
        private static final long serialVersionUID = 1;
        final int answer;

        Refused(int answer) {
            super(null, null, false, false);
            this.answer = answer;
        }
    }

    private State s = new State();
    private final State[] images = new State[2];
    private String text = "";
    private BigInteger above = BigInteger.ZERO, below = BigInteger.ONE;
    private final long[] status = new long[3];

    long call(String method, long... a) {
        try {
            return answer(method, a);
        } catch (Refused r) {
            return r.answer;
        }
    }

    private long answer(String method, long[] a) {
        switch (method) {
            case "thing": return thing((int) a[0]);
            case "town": return town((int) a[0], (int) a[1]);
            case "put": return put((int) a[0], (int) a[1], (int) a[2]);
            case "does": return does((int) a[0], (int) a[1], (int) a[2]);
            case "undo": return undo();
            case "need": return need((int) a[0], (int) a[1], (int) a[2]);
            case "type": return type(a[0], (int) a[1]);
            case "clear": { int was = text.length(); text = ""; return was; }
            case "read": return read();
            case "at": bad(thingThere(s, a[0]), BAD); return at(s.under, s.line, (int) a[0]);
            case "pays": bad(person(s, a[0]) && hour(s, a[1]), BAD); return pays(s, s.does, (int) a[0], (int) a[1]);
            case "all": return all(s, s.does, s.h);
            case "least": return least(a[0], a[1]);
            case "fewest": return fewest();
            case "list": return list(a[0]);
            case "rests": return rests(a[0]);
            case "better": return better((int) a[0], (int) a[1]);
            case "name": return name((int) a[0]);
            case "line": return line((int) a[0]);
            case "choir": return choir((int) a[0], (int) a[1]);
            case "told": return told((int) a[0], (int) a[1]);
            case "did": return did((int) a[0], (int) a[1]);
            case "copied": return copied((int) a[0]);
            case "crowd": return crowd((int) a[0], (int) a[1], (int) a[2]);
            case "part": bad(a[0] == 0 || a[0] == 1, BAD); return (a[0] == 0 ? above : below).longValueExact();
            case "image": bad(a[0] == 0 || a[0] == 1, BAD); images[(int) a[0]] = s.copy(); return 1;
            case "from": bad(a[0] == 0 || a[0] == 1, BAD); no(images[(int) a[0]] != null); s = images[(int) a[0]].copy(); return 1;
            case "status": bad(a[0] >= 0 && a[0] <= 2, -1); return status[(int) a[0]];
            case "count": bad(a[0] >= 0 && a[0] <= 4, BAD); return count((int) a[0]);
            case "digest": return digest();
            default: throw new IllegalArgumentException(method);
        }
    }

    private void bad(boolean asTold, int answer) {
        if (!asTold) { status[0]++; throw new Refused(answer); }
    }

    private void no(boolean asTold) {
        if (!asTold) { status[1]++; throw new Refused(NO); }
    }

    private void full(boolean asTold) {
        if (!asTold) { status[2]++; throw new Refused(FULL); }
    }

    private static boolean person(State s, long p) { return p >= 0 && p < s.n; }

    private static boolean hour(State s, long h) { return h >= 0 && h < s.h; }

    private static boolean thingThere(State s, long t) { return t >= 0 && t < s.under.size(); }

    private long thing(int under) {
        bad(under == NONE || thingThere(s, under), BAD);
        full(s.under.size() < 9);
        s.under.add(under);
        return s.under.size() - 1;
    }

    private long town(int n, int h) {
        bad(n >= 1 && n <= 5 && h >= 1 && h <= 5, BAD);
        State fresh = new State();
        fresh.under = s.under;
        fresh.line = s.line;
        fresh.n = n;
        fresh.h = h;
        s = fresh;
        return 1;
    }

    private long put(int what, int i, int v) {
        bad(what >= 0 && what <= 2, BAD);
        bad(what == 0 ? hour(s, i) : i == 0, BAD);
        int was;
        if (what == 0) {
            bad(v >= 0 && v <= 5, BAD);
            was = s.kind[i];
            s.kind[i] = v;
        } else if (what == 1) {
            bad(v >= 0 && v <= 4, BAD);
            was = s.line;
            s.line = v;
        } else {
            bad(person(s, v), BAD);
            was = s.rich;
            s.rich = v;
        }
        return was;
    }

    private long does(int p, int h, int t) {
        bad(person(s, p) && hour(s, h) && (t == NONE || thingThere(s, t)), -10);
        int was = s.does[p][h];
        s.undo.addLast(new int[] {p, h, was});
        while (s.undo.size() > 10) s.undo.removeFirst();
        s.does[p][h] = t;
        return was;
    }

    private long undo() {
        no(!s.undo.isEmpty());
        int[] last = s.undo.removeLast();
        s.does[last[0]][last[1]] = last[2];
        return 1;
    }

    private long need(int p, int t, int n) {
        bad(person(s, p) && thingThere(s, t) && n >= 0 && n <= 5, BAD);
        int was = s.need[p][t];
        bad(Arrays.stream(s.need[p]).sum() - was + n <= s.h, BAD);
        s.need[p][t] = n;
        return was;
    }

    private long type(long v, int n) {
        bad(n >= 1 && n <= 8, BAD);
        full(text.length() + n <= 250);
        StringBuilder more = new StringBuilder();
        for (int i = 0; i < n; i++) more.insert(0, (char) ((v >> (8 * i)) & 255));
        text += more;
        return text.length();
    }

    // ---- the text

    private static final Pattern TOKEN = Pattern.compile("([a-z]+)|([0-9]+)|(;)|([^ ])", Pattern.DOTALL);

    private static final class Fault extends RuntimeException {
        private static final long serialVersionUID = 1;
        final int place;

        Fault(int place) {
            super(null, null, false, false);
            this.place = place;
        }
    }

    /** The tokens of a text, each with its place. */
    private static final class Tokens {
        final List<String> words = new ArrayList<>();
        final List<Integer> places = new ArrayList<>();
        final int end;
        int next = 0;

        Tokens(String text) {
            end = text.length();
            Matcher m = TOKEN.matcher(text);
            while (m.find()) {
                words.add(m.group());
                places.add(m.start());
            }
        }

        boolean atEnd() { return next >= words.size(); }

        String look() { return atEnd() ? "" : words.get(next); }

        Fault fault() { return new Fault(atEnd() ? end : places.get(next)); }

        int number(int low, int high) {
            if (!look().matches("[0-9]")) throw fault();
            int v = look().charAt(0) - '0';
            if (v < low || v > high) throw fault();
            next++;
            return v;
        }

        void stop() {
            if (!look().equals(";")) throw fault();
            next++;
        }
    }

    private long read() {
        Tokens in = new Tokens(text);
        State t = new State();
        boolean hanging = false;
        int items = 0;
        try {
            while (!in.atEnd()) {
                hanging = item(in, t, hanging);
                items++;
            }
        } catch (Fault f) {
            return -10 - f.place;
        }
        s = t;
        return items;
    }

    private static boolean item(Tokens in, State t, boolean hanging) {
        String word = in.look();
        List<String> hang = List.of("does", "need", "rich", "hour");
        boolean known = hang.contains(word) || List.of("thing", "people", "hours", "line").contains(word);
        if (!known) throw in.fault();
        if (word.equals("thing") && t.under.size() == 9) throw in.fault();
        if (hanging && (word.equals("people") || word.equals("hours"))) throw in.fault();
        in.next++;
        int things = t.under.size();
        if (word.equals("thing")) {
            t.under.add(in.look().equals(";") ? NONE : in.number(0, things - 1));
        } else if (word.equals("people")) {
            t.n = in.number(1, 5);
        } else if (word.equals("hours")) {
            t.h = in.number(1, 5);
        } else if (word.equals("line")) {
            t.line = in.number(0, 4);
        } else if (word.equals("rich")) {
            t.rich = in.number(0, t.n - 1);
        } else if (word.equals("hour")) {
            int h = in.number(0, t.h - 1);
            t.kind[h] = in.number(0, 5);
        } else if (word.equals("does")) {
            int p = in.number(0, t.n - 1);
            int h = in.number(0, t.h - 1);
            t.does[p][h] = in.number(0, things - 1);
        } else {
            int p = in.number(0, t.n - 1);
            int what = in.number(0, things - 1);
            int others = Arrays.stream(t.need[p]).sum() - t.need[p][what];
            t.need[p][what] = in.number(0, Math.min(5, t.h - others));
        }
        in.stop();
        return hanging || hang.contains(word);
    }

    // ---- what is the same, and what it costs

    private static int depth(List<Integer> under, int t) {
        return under.get(t) == NONE ? 0 : 1 + depth(under, under.get(t));
    }

    private static int at(List<Integer> under, int line, int t) {
        return depth(under, t) <= line ? t : at(under, line, under.get(t));
    }

    private static boolean same(State s, int t, int u) {
        return t != NONE && u != NONE && at(s.under, s.line, t) == at(s.under, s.line, u);
    }

    private static TreeSet<Integer> group(State s, int[][] day, int p, int h) {
        TreeSet<Integer> group = new TreeSet<>();
        int kind = h < s.h ? s.kind[h] : 0;
        if (day[p][h] == NONE || (kind == 4 && day[p][h] == 0)) return group;
        for (int q = 0; q < s.n; q++) {
            if (kind == 4 && day[q][h] == 0) continue;
            if (same(s, day[p][h], day[q][h])) group.add(q);
        }
        return group;
    }

    private static int asInAnHour(TreeSet<Integer> group) {
        return group.isEmpty() ? 0 : group.size() - 1;
    }

    private static int pays(State s, int[][] day, int p, int h) {
        int kind = h < s.h ? s.kind[h] : 0;
        TreeSet<Integer> group = group(s, day, p, h);
        if (kind == 0) return asInAnHour(group);
        if (kind == 1 || kind == 4) return asInAnHour(group) + asInAnHour(group);
        if (kind == 2) {
            if (!group.contains(s.rich)) return asInAnHour(group);
            return p == s.rich ? group.size() * asInAnHour(group) : 0;
        }
        int listed = group.isEmpty() ? 0 : group.headSet(p).size();
        if (kind == 3) return listed;
        boolean after = false;
        for (int q = 0; q < s.n && h > 0; q++) {
            after |= q != p && same(s, day[p][h], day[q][h - 1]);
        }
        return after ? listed + 2 : listed;
    }

    private static int ofOne(State s, int[][] day, int p, int hours) {
        int sum = 0;
        for (int h = 0; h < hours; h++) sum += pays(s, day, p, h);
        return sum;
    }

    private static int all(State s, int[][] day, int hours) {
        int sum = 0;
        for (int p = 0; p < s.n; p++) sum += ofOne(s, day, p, hours);
        return sum;
    }

    // ---- days

    private static List<int[]> rows(State s, int p, int hours) {
        List<int[]> rows = new ArrayList<>();
        int[] row = new int[5];
        Arrays.fill(row, NONE);
        int nothing = hours - Arrays.stream(s.need[p]).sum();
        if (nothing >= 0) rows(rows, row, s.need[p].clone(), nothing, 0, hours);
        return rows;
    }

    private static void rows(List<int[]> rows, int[] row, int[] left, int nothing, int h, int hours) {
        if (h == hours) {
            rows.add(row.clone());
            return;
        }
        for (int t = 0; t < 9; t++) {
            if (left[t] > 0) {
                left[t]--;
                row[h] = t;
                rows(rows, row, left, nothing, h + 1, hours);
                left[t]++;
            }
        }
        row[h] = NONE;
        if (nothing > 0) rows(rows, row, left, nothing - 1, h + 1, hours);
    }

    private static List<List<int[]>> allRows(State s, int hours) {
        List<List<int[]>> all = new ArrayList<>();
        for (int p = 0; p < s.n; p++) all.add(rows(s, p, hours));
        return all;
    }

    private static boolean tooMany(List<List<int[]>> rows) {
        BigInteger ways = BigInteger.ONE;
        for (List<int[]> one : rows) ways = ways.multiply(BigInteger.valueOf(one.size()));
        return ways.compareTo(BigInteger.valueOf(50000)) > 0;
    }

    private int[][] bestDay;
    private int bestFines;

    private void eachDay(List<List<int[]>> rows, int[][] day, int p, int hours) {
        if (p == s.n) {
            int fines = all(s, day, hours);
            if (bestDay == null || fines < bestFines) {
                bestFines = fines;
                bestDay = new int[][] {day[0].clone(), day[1].clone(), day[2].clone(), day[3].clone(), day[4].clone()};
            }
            return;
        }
        for (int[] row : rows.get(p)) {
            day[p] = row;
            eachDay(rows, day, p + 1, hours);
        }
    }

    private void findBest(List<List<int[]>> rows, int hours) {
        bestDay = null;
        eachDay(rows, new State().does, 0, hours);
    }

    private long least(long p, long h) {
        bad(p == NONE ? h == 0 : person(s, p) && hour(s, h), BAD);
        List<List<int[]>> rows = allRows(s, s.h);
        no(!tooMany(rows));
        findBest(rows, s.h);
        if (p == NONE) return bestFines;
        int t = bestDay[(int) p][(int) h];
        return t == NONE ? 9 : t;
    }

    private long fewest() {
        for (int hours = 1; hours <= 5; hours++) {
            List<List<int[]>> rows = allRows(s, hours);
            no(!tooMany(rows));
            findBest(rows, hours);
            if (bestDay != null && bestFines == 0) return hours;
        }
        return NONE;
    }

    private int[] firstCheapest(int[][] day, int p) {
        int[] best = null;
        int least = 0;
        int[] now = day[p];
        for (int[] row : rows(s, p, s.h)) {
            day[p] = row;
            int fines = ofOne(s, day, p, s.h);
            if (best == null || fines < least) {
                best = row;
                least = fines;
            }
        }
        day[p] = now;
        return best;
    }

    private int greatest(int[][] day, List<Integer> come) {
        if (come.size() == s.n) return all(s, day, s.h);
        int greatest = 0;
        for (int p = 0; p < s.n; p++) {
            if (come.contains(p)) continue;
            int[][] next = day.clone();
            next[p] = firstCheapest(next, p);
            List<Integer> more = new ArrayList<>(come);
            more.add(p);
            greatest = Math.max(greatest, greatest(next, more));
        }
        return greatest;
    }

    private long list(long what) {
        bad(what == 0 || what == 1, BAD);
        int[][] day = new State().does;
        if (what == 1) return greatest(day, List.of());
        for (int p = 0; p < s.n; p++) day[p] = firstCheapest(day, p);
        return all(s, day, s.h);
    }

    private long rests(long what) {
        bad(what == 0 || what == 1, -10);
        int[][] day = s.copy().does;
        for (int round = 0; round <= 20; round++) {
            boolean changed = false;
            for (int p = 0; p < s.n; p++) {
                int now = ofOne(s, day, p, s.h);
                int[] was = day[p];
                day[p] = firstCheapest(day, p);
                if (ofOne(s, day, p, s.h) < now) changed = true;
                else day[p] = was;
            }
            if (!changed) return what == 0 ? round : all(s, day, s.h);
        }
        return what == 0 ? NONE : -5;
    }

    // ---- what to do, what to call it

    private long better(int p, int h) {
        bad(person(s, p) && hour(s, h), BAD);
        int best = NONE;
        int least = 1000;
        for (int t = 0; t < s.under.size(); t++) {
            int[][] day = s.copy().does;
            day[p][h] = t;
            int fine = pays(s, day, p, h);
            if (fine < least) {
                least = fine;
                best = t;
            }
        }
        return best;
    }

    private long name(int t) {
        bad(thingThere(s, t), -1000);
        State other = s.copy();
        other.under.set(t, NONE);
        return all(s, s.does, s.h) - all(other, other.does, other.h);
    }

    private long line(int p) {
        bad(person(s, p), BAD);
        int best = 4;
        for (int line = 4; line >= 0; line--) {
            State one = s.copy();
            one.line = line;
            State two = s.copy();
            two.line = best;
            if (ofOne(one, one.does, p, s.h) <= ofOne(two, two.does, p, s.h)) best = line;
        }
        return best;
    }

    private long choir(int t, int m) {
        bad(thingThere(s, t) && m >= 1 && m <= s.n, BAD);
        TreeSet<Integer> sums = new TreeSet<>();
        for (int h = 0; h < s.h; h++) {
            int[][] day = new State().does;
            for (int p = 0; p < m; p++) day[p][h] = t;
            sums.add(all(s, day, s.h));
        }
        return sums.first();
    }

    // ---- what was done

    private long told(int p, int pennies) {
        bad(person(s, p) && pennies >= 0 && pennies <= 40, BAD);
        int was = s.told[p];
        s.told[p] = pennies;
        return was;
    }

    private int[] firstWay;

    private int waysToPay(int[][] day, int h, int p) {
        if (p == s.n) {
            for (int q = 0; q < s.n; q++) {
                if (pays(s, day, q, h) != s.told[q]) return 0;
            }
            if (firstWay == null) {
                firstWay = new int[s.n];
                for (int q = 0; q < s.n; q++) firstWay[q] = day[q][h];
            }
            return 1;
        }
        int ways = 0;
        for (int i = 0; i <= s.under.size(); i++) {
            day[p][h] = i == s.under.size() ? NONE : i;
            ways += waysToPay(day, h, p + 1);
        }
        return ways;
    }

    private long did(int h, int p) {
        bad(hour(s, h) && (p == NONE || person(s, p)), -10);
        firstWay = null;
        int ways = waysToPay(s.copy().does, h, 0);
        if (p == NONE) return ways;
        if (ways == 0) return -5;
        return firstWay[p] == NONE ? 9 : firstWay[p];
    }

    private long copied(int p) {
        bad(person(s, p), BAD);
        int[] times = new int[s.n];
        for (int q = 0; q < s.n; q++) {
            for (int h = 0; h + 1 < s.h && q != p; h++) {
                if (s.does[q][h] != NONE && s.does[p][h + 1] == s.does[q][h]) times[q]++;
            }
        }
        int most = Arrays.stream(times).max().getAsInt();
        if (most == 0) return NONE;
        for (int q = 0; q < s.n; q++) {
            if (times[q] == most) return q;
        }
        throw new IllegalStateException();
    }

    private long crowd(int n, int m, int k) {
        bad(n >= 1 && n <= 18 && m >= 1 && m <= 9 && k >= 0 && k <= n, BAD);
        BigInteger[] exactly = new BigInteger[n + 1]; // ways in which just j do it, people coming one by one
        Arrays.fill(exactly, BigInteger.ZERO);
        exactly[0] = BigInteger.ONE;
        for (int i = 0; i < n; i++) {
            for (int j = n; j >= 0; j--) {
                BigInteger stay = exactly[j].multiply(BigInteger.valueOf(m - 1));
                exactly[j] = j == 0 ? stay : stay.add(exactly[j - 1]);
            }
        }
        BigInteger some = BigInteger.ZERO;
        for (int j = k; j <= n; j++) some = some.add(exactly[j]);
        BigInteger whole = BigInteger.valueOf(m).pow(n);
        BigInteger g = some.gcd(whole);
        above = some.divide(g);
        below = whole.divide(g);
        return 1;
    }

    // ---- what there is

    private int count(int what) {
        return new int[] {s.under.size(), s.n, s.h, s.undo.size(), text.length()}[what];
    }

    private long digest() {
        List<Long> all = new ArrayList<>();
        for (int what = 0; what < 5; what++) all.add((long) count(what));
        for (int u : s.under) all.add((long) u);
        all.add((long) s.line);
        all.add((long) s.rich);
        for (int h = 0; h < s.h; h++) all.add((long) s.kind[h]);
        for (int p = 0; p < s.n; p++) {
            for (int h = 0; h < s.h; h++) all.add((long) s.does[p][h]);
            for (int t = 0; t < s.under.size(); t++) all.add((long) s.need[p][t]);
            all.add((long) s.told[p]);
        }
        all.add(above.longValueExact());
        all.add(below.longValueExact());
        long h = 751;
        for (long v : all) h = 31 * h + v;
        return h;
    }
}
