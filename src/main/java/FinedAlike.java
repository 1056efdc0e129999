import java.util.Arrays;

/** Fines for doing what another does: ../shared/DOC.md tells, promise by promise, what each call answers. */
public final class FinedAlike {
    public static final int NONE = -1, BAD = -2, NO = -3, FULL = -4;

    private static final int MOST_THINGS = 9;
    private static final int MOST_PEOPLE = 5;
    private static final int MOST_HOURS = 5;
    private static final int MOST_NEEDED = 5;
    private static final int MOST_PENNIES = 40;
    private static final int MOST_UNDONE = 10;
    private static final int MOST_BYTES = 250;
    private static final int MOST_WAYS = 50000;
    private static final int LAST_LINE = 4;
    private static final int LAST_ROUND = 20;
    private static final int IMAGES = 2;

    /** One more than the last thing, so that it sorts behind all of them, as the document wants. */
    private static final int NOTHING = 9;

    private static final int SHARED = 1;
    private static final int BOUGHT = 2;
    private static final int LISTED = 3;
    private static final int IDLE = 4;
    private static final int COPIED = 5;
    private static final int LAST_KIND = 5;

    /** By kind: what any two of a group pay for one another, both together. */
    private static final int[] PAIR_PAYS = {2, 4, 2, 1, 4, 1};

    /** By kind: by how much one who comes behind all others can raise the fine of one of them. */
    private static final int[] NEXT_ONE_ADDS = {1, 2, 8, 0, 2, 0};

    /** Five hours have at most 5! = 120 orders of what is done in them; so have five people. */
    private static final int MOST_ORDERS = 120;

    /** Far more than any search here takes: 5 levels of 50000 ways, or 10 choices of 5 people. */
    private static final int MOST_STEPS = 1000000;

    private static final int BEYOND_ALL_FINES = 1000000;

    private static final int NO_REST = -5;
    private static final int NO_WAY = -5;
    private static final int BAD_TEN = -10;
    private static final int FAULT_AT_0 = -10;
    private static final int BAD_NAME = -1000;
    private static final int BAD_STATUS = -1;

    private final Town town = new Town();
    private final Town draft = new Town();
    private final Town[] images = new Town[IMAGES];
    private final boolean[] kept = new boolean[IMAGES];
    private final Text text = new Text();
    private final Court court = new Court();
    private final Days days = new Days();
    private final Past past = new Past();
    private long above;
    private long below;
    private int refusedBad;
    private int refusedNo;
    private int refusedFull;

    /** How often the town has changed: what was searched for an older one is searched anew. */
    private int changes;

    public FinedAlike() {
        for (int i = 0; i < IMAGES; i++) {
            images[i] = new Town();
        }
        below = 1;
    }

    // ---- a town

    public int thing(int under) {
        if (under != NONE && !town.hasThing(under)) {
            return refuseBad(BAD);
        }
        if (town.things >= MOST_THINGS) {
            return refuseFull();
        }
        changes++;
        town.addThing(under);
        return town.things - 1;
    }

    public int town(int n, int h) {
        if (!within(n, 1, MOST_PEOPLE) || !within(h, 1, MOST_HOURS)) {
            return refuseBad(BAD);
        }
        changes++;
        town.settle(n, h);
        return 1;
    }

    public int put(int what, int i, int v) {
        switch (what) {
            case 0:
                return town.hasHour(i) && within(v, 0, LAST_KIND) ? putKind(i, v) : refuseBad(BAD);
            case 1:
                return i == 0 && within(v, 0, LAST_LINE) ? putLine(v) : refuseBad(BAD);
            case 2:
                return i == 0 && town.hasPerson(v) ? putRich(v) : refuseBad(BAD);
            default:
                return refuseBad(BAD);
        }
    }

    public int does(int person, int hour, int thing) {
        boolean known = thing == NONE || town.hasThing(thing);
        if (!known || !town.hasPerson(person) || !town.hasHour(hour)) {
            return refuseBad(BAD_TEN);
        }
        changes++;
        int was = town.doing[hour][person];
        town.rememberDoing(person, hour, was);
        town.doing[hour][person] = thing == NONE ? NOTHING : thing;
        return shown(was);
    }

    public int undo() {
        if (town.undoable < 1) {
            return refuseNo();
        }
        changes++;
        town.undoLast();
        return 1;
    }

    public int need(int person, int thing, int n) {
        if (!town.hasPerson(person) || !town.hasThing(thing) || !within(n, 0, town.mostNeeded(person, thing))) {
            return refuseBad(BAD);
        }
        changes++;
        int was = town.needs[person][thing];
        town.needs[person][thing] = n;
        return was;
    }

    public int type(long v, int n) {
        if (!within(n, 1, 8)) {
            return refuseBad(BAD);
        }
        if (text.length + n > MOST_BYTES) {
            return refuseFull();
        }
        for (int i = n - 1; i >= 0; i--) {
            text.append((byte) (v >>> (8 * i)));
        }
        return text.length;
    }

    public int clear() {
        int was = text.length;
        text.length = 0;
        return was;
    }

    public int read() {
        int answer = text.readInto(draft);
        if (answer >= 0) {
            changes++;
            town.takeOver(draft);
        }
        return answer;
    }

    public int at(int thing) {
        if (!town.hasThing(thing)) {
            return refuseBad(BAD);
        }
        court.sit(town, town.line, NONE);
        return court.same[thing];
    }

    public int pays(int person, int hour) {
        if (!town.hasPerson(person) || !town.hasHour(hour)) {
            return refuseBad(BAD);
        }
        court.sit(town, town.line, NONE);
        return court.fineIn(town, hour, person, town.doing[hour][person]);
    }

    public int all() {
        return allFines(NONE);
    }

    // ---- days

    public int least(int person, int hour) {
        boolean howMuch = person == NONE && hour == 0;
        boolean ofOne = town.hasPerson(person) && town.hasHour(hour);
        if (!howMuch && !ofOne) {
            return refuseBad(BAD);
        }
        court.sit(town, town.line, NONE);
        if (!days.findLeast(town, court, changes)) {
            return refuseNo();
        }
        return howMuch ? days.leastFines : days.leastDay[hour][person];
    }

    public int fewest() {
        court.sit(town, town.line, NONE);
        int hours = days.fewestHours(town, court);
        return hours == NO ? refuseNo() : hours;
    }

    public int list(int what) {
        if (!within(what, 0, 1)) {
            return refuseBad(BAD);
        }
        court.sit(town, town.line, NONE);
        return what == 0 ? days.finesByNumber(town, court) : days.finesByWorstOrder(town, court);
    }

    public int rests(int what) {
        if (!within(what, 0, 1)) {
            return refuseBad(BAD_TEN);
        }
        court.sit(town, town.line, NONE);
        int round = days.roundOfRest(town, court);
        if (what == 0) {
            return round;
        }
        return round == NONE ? NO_REST : court.finesOf(town, days.day, town.hours);
    }

    // ---- what to do, what to call it

    public int better(int person, int hour) {
        if (!town.hasPerson(person) || !town.hasHour(hour)) {
            return refuseBad(BAD);
        }
        court.sit(town, town.line, NONE);
        int best = NONE;
        int least = BEYOND_ALL_FINES;
        for (int t = 0; t < town.things; t++) {
            int fine = court.fineIn(town, hour, person, t);
            if (fine < least) {
                least = fine;
                best = t;
            }
        }
        return best;
    }

    public int name(int thing) {
        if (!town.hasThing(thing)) {
            return refuseBad(BAD_NAME);
        }
        return allFines(NONE) - allFines(thing);
    }

    public int line(int person) {
        if (!town.hasPerson(person)) {
            return refuseBad(BAD);
        }
        int best = 0;
        int least = BEYOND_ALL_FINES;
        for (int line = 0; line <= LAST_LINE; line++) {
            court.sit(town, line, NONE);
            int fines = finesOfOne(person);
            if (fines < least) {
                least = fines;
                best = line;
            }
        }
        return best;
    }

    public int choir(int thing, int m) {
        if (!town.hasThing(thing) || !within(m, 1, town.people)) {
            return refuseBad(BAD);
        }
        court.sit(town, town.line, NONE);
        return court.leastOfChoir(town, thing, m);
    }

    // ---- what was done

    public int told(int person, int pennies) {
        if (!town.hasPerson(person) || !within(pennies, 0, MOST_PENNIES)) {
            return refuseBad(BAD);
        }
        changes++;
        int was = town.paid[person];
        town.paid[person] = pennies;
        return was;
    }

    public int did(int hour, int person) {
        if (!town.hasHour(hour) || (person != NONE && !town.hasPerson(person))) {
            return refuseBad(BAD_TEN);
        }
        court.sit(town, town.line, NONE);
        past.findWays(town, court, hour, changes);
        if (person == NONE) {
            return past.found;
        }
        return past.found == 0 ? NO_WAY : past.first[person];
    }

    public int copied(int person) {
        if (!town.hasPerson(person)) {
            return refuseBad(BAD);
        }
        int best = NONE;
        int most = 0;
        for (int other = 0; other < town.people; other++) {
            int times = other == person ? 0 : timesCopied(person, other);
            if (times > most) {
                most = times;
                best = other;
            }
        }
        return best;
    }

    public int crowd(int n, int m, int k) {
        if (!within(n, 1, 18) || !within(m, 1, 9) || !within(k, 0, n)) {
            return refuseBad(BAD);
        }
        long whole = 1;
        for (int i = 0; i < n; i++) {
            whole *= m;
        }
        long some = crowdsOfAtLeast(n, m, k);
        long divisor = Math.max(1, commonDivisor(some, whole));
        above = some / divisor;
        below = whole / divisor;
        return 1;
    }

    // ---- what there is

    public long part(int what) {
        switch (what) {
            case 0:
                return above;
            case 1:
                return below;
            default:
                return refuseBad(BAD);
        }
    }

    public int image(int i) {
        if (!within(i, 0, IMAGES - 1)) {
            return refuseBad(BAD);
        }
        images[i].takeOver(town);
        kept[i] = true;
        return 1;
    }

    public int from(int i) {
        if (!within(i, 0, IMAGES - 1)) {
            return refuseBad(BAD);
        }
        if (!kept[i]) {
            return refuseNo();
        }
        changes++;
        town.takeOver(images[i]);
        return 1;
    }

    public int status(int what) {
        switch (what) {
            case 0:
                return refusedBad;
            case 1:
                return refusedNo;
            case 2:
                return refusedFull;
            default:
                return refuseBad(BAD_STATUS);
        }
    }

    public int count(int what) {
        return within(what, 0, 4) ? amount(what) : refuseBad(BAD);
    }

    public long digest() {
        long h = 751;
        for (int what = 0; what <= 4; what++) {
            h = 31 * h + amount(what);
        }
        for (int t = 0; t < town.things; t++) {
            h = 31 * h + town.under[t];
        }
        h = 31 * h + town.line;
        h = 31 * h + town.rich;
        for (int hour = 0; hour < town.hours; hour++) {
            h = 31 * h + town.kinds[hour];
        }
        for (int person = 0; person < town.people; person++) {
            h = digestWith(h, person);
        }
        h = 31 * h + above;
        return 31 * h + below;
    }

    // ---- what the calls share

    private int refuseBad(int answer) {
        refusedBad++;
        return answer;
    }

    private int refuseNo() {
        refusedNo++;
        return NO;
    }

    private int refuseFull() {
        refusedFull++;
        return FULL;
    }

    private int putKind(int hour, int kind) {
        changes++;
        int was = town.kinds[hour];
        town.kinds[hour] = kind;
        return was;
    }

    private int putLine(int line) {
        changes++;
        int was = town.line;
        town.line = line;
        return was;
    }

    private int putRich(int person) {
        changes++;
        int was = town.rich;
        town.rich = person;
        return was;
    }

    private int allFines(int freed) {
        court.sit(town, town.line, freed);
        return court.finesOf(town, town.doing, town.hours);
    }

    private int finesOfOne(int person) {
        int fines = 0;
        for (int hour = 0; hour < town.hours; hour++) {
            fines += court.fineIn(town, hour, person, town.doing[hour][person]);
        }
        return fines;
    }

    private int timesCopied(int person, int other) {
        int times = 0;
        for (int hour = 1; hour < town.hours; hour++) {
            int did = town.doing[hour - 1][other];
            if (did != NOTHING && town.doing[hour][person] == did) {
                times++;
            }
        }
        return times;
    }

    private int amount(int what) {
        switch (what) {
            case 0:
                return town.things;
            case 1:
                return town.people;
            case 2:
                return town.hours;
            case 3:
                return town.undoable;
            default:
                return text.length;
        }
    }

    private long digestWith(long start, int person) {
        long h = start;
        for (int hour = 0; hour < town.hours; hour++) {
            h = 31 * h + shown(town.doing[hour][person]);
        }
        for (int t = 0; t < town.things; t++) {
            h = 31 * h + town.needs[person][t];
        }
        return 31 * h + town.paid[person];
    }

    private static boolean within(int v, int low, int high) {
        return v >= low && v <= high;
    }

    private static int shown(int thing) {
        return thing == NOTHING ? NONE : thing;
    }

    /** Of the m^n ways of n people, those in which k at least do the told one: at most 9^18, so a long holds them. */
    private static long crowdsOfAtLeast(int n, int m, int k) {
        long ways = 0;
        long choices = 1;
        long waysOfOthers = 1;
        for (int j = n; j >= k; j--) {
            ways += choices * waysOfOthers;
            choices = choices * j / (n - j + 1);
            waysOfOthers *= m - 1;
        }
        return ways;
    }

    private static long commonDivisor(long a, long b) {
        long big = a;
        long small = b;
        for (int i = 0; i < MOST_STEPS && small != 0; i++) {
            long rest = big % small;
            big = small;
            small = rest;
        }
        return big;
    }

    /** Puts the first elements, length of them, into the next order by size: false, if they were in the last one. */
    private static boolean nextOrder(int[] elements, int length) {
        int turn = length - 2;
        while (turn >= 0 && elements[turn] >= elements[turn + 1]) {
            turn--;
        }
        if (turn < 0) {
            return false;
        }
        int greater = length - 1;
        while (greater > turn + 1 && elements[greater] <= elements[turn]) {
            greater--;
        }
        swap(elements, turn, greater);
        for (int low = turn + 1, high = length - 1; low < high; low++, high--) {
            swap(elements, low, high);
        }
        return true;
    }

    private static void swap(int[] elements, int i, int j) {
        int kept = elements[i];
        elements[i] = elements[j];
        elements[j] = kept;
    }

    /** All that an image keeps and that a text tells: the town itself. */
    private static final class Town {
        int things;
        int line;
        int people;
        int hours;
        int rich;
        int undoable;
        final int[] under = new int[MOST_THINGS];
        final int[] kinds = new int[MOST_HOURS];
        /** By hour, then person: a fine is a matter of one hour and the one ahead of it. */
        final int[][] doing = new int[MOST_HOURS][MOST_PEOPLE];
        /** By person, then thing. */
        final int[][] needs = new int[MOST_PEOPLE][MOST_THINGS];
        final int[] paid = new int[MOST_PEOPLE];
        final int[] undoPerson = new int[MOST_UNDONE];
        final int[] undoHour = new int[MOST_UNDONE];
        final int[] undoThing = new int[MOST_UNDONE];

        Town() {
            begin();
        }

        void begin() {
            things = 0;
            line = LAST_LINE;
            settle(3, 4);
        }

        void settle(int n, int h) {
            people = n;
            hours = h;
            rich = 0;
            undoable = 0;
            Arrays.fill(kinds, 0);
            Arrays.fill(paid, 0);
            for (int hour = 0; hour < MOST_HOURS; hour++) {
                Arrays.fill(doing[hour], NOTHING);
            }
            for (int person = 0; person < MOST_PEOPLE; person++) {
                Arrays.fill(needs[person], 0);
            }
        }

        void takeOver(Town other) {
            things = other.things;
            line = other.line;
            people = other.people;
            hours = other.hours;
            rich = other.rich;
            undoable = other.undoable;
            System.arraycopy(other.under, 0, under, 0, MOST_THINGS);
            System.arraycopy(other.kinds, 0, kinds, 0, MOST_HOURS);
            System.arraycopy(other.paid, 0, paid, 0, MOST_PEOPLE);
            System.arraycopy(other.undoPerson, 0, undoPerson, 0, MOST_UNDONE);
            System.arraycopy(other.undoHour, 0, undoHour, 0, MOST_UNDONE);
            System.arraycopy(other.undoThing, 0, undoThing, 0, MOST_UNDONE);
            for (int hour = 0; hour < MOST_HOURS; hour++) {
                System.arraycopy(other.doing[hour], 0, doing[hour], 0, MOST_PEOPLE);
            }
            for (int person = 0; person < MOST_PEOPLE; person++) {
                System.arraycopy(other.needs[person], 0, needs[person], 0, MOST_THINGS);
            }
        }

        boolean hasThing(int thing) {
            return within(thing, 0, things - 1);
        }

        boolean hasPerson(int person) {
            return within(person, 0, people - 1);
        }

        boolean hasHour(int hour) {
            return within(hour, 0, hours - 1);
        }

        void addThing(int above) {
            if (things < MOST_THINGS) {
                under[things] = above;
                things++;
            }
        }

        /** Hours beyond the last one are looked at too, when it is asked how few would do. */
        int kindOf(int hour) {
            return hour >= 0 && hour < hours ? kinds[hour] : 0;
        }

        int needed(int person) {
            int sum = 0;
            for (int t = 0; t < things; t++) {
                sum += needs[person][t];
            }
            return sum;
        }

        /** In how many hours one may need a thing, with what else he needs. */
        int mostNeeded(int person, int thing) {
            return Math.min(MOST_NEEDED, hours - needed(person) + needs[person][thing]);
        }

        void rememberDoing(int person, int hour, int thing) {
            if (undoable >= MOST_UNDONE) {
                forgetOldest();
            }
            undoPerson[undoable] = person;
            undoHour[undoable] = hour;
            undoThing[undoable] = thing;
            undoable++;
        }

        private void forgetOldest() {
            System.arraycopy(undoPerson, 1, undoPerson, 0, MOST_UNDONE - 1);
            System.arraycopy(undoHour, 1, undoHour, 0, MOST_UNDONE - 1);
            System.arraycopy(undoThing, 1, undoThing, 0, MOST_UNDONE - 1);
            undoable = MOST_UNDONE - 1;
        }

        void undoLast() {
            if (undoable > 0) {
                undoable--;
                doing[undoHour[undoable]][undoPerson[undoable]] = undoThing[undoable];
            }
        }
    }

    /** Says what is the same, and what it costs. */
    private static final class Court {
        /** What each thing is at the line; the last place is for nothing, which is the same as no thing. */
        final int[] same = new int[NOTHING + 1];
        private final int[] depth = new int[MOST_THINGS];
        private final int[] nobody = new int[MOST_PEOPLE];
        private final int[] singers = new int[MOST_PEOPLE];
        private int people;
        private int rich;

        Court() {
            Arrays.fill(nobody, NOTHING);
        }

        /** freed: a thing that is taken as one under none, or NONE. */
        void sit(Town town, int line, int freed) {
            people = town.people;
            rich = town.rich;
            Arrays.fill(same, NONE);
            for (int t = 0; t < town.things; t++) {
                int above = t == freed ? NONE : town.under[t];
                boolean isUnder = within(above, 0, t - 1);
                depth[t] = isUnder ? depth[above] + 1 : 0;
                same[t] = isUnder && depth[t] > line ? same[above] : t;
            }
        }

        int[] aheadOf(int[][] day, int hour) {
            return within(hour, 1, MOST_HOURS - 1) ? day[hour - 1] : nobody;
        }

        /** What one would pay for a thing in an hour, others as they are. */
        int fineIn(Town town, int hour, int person, int thing) {
            return fine(town.kindOf(hour), town.doing[hour], aheadOf(town.doing, hour), person, thing);
        }

        int finesOf(Town town, int[][] day, int hours) {
            int fines = 0;
            for (int hour = 0; hour < hours; hour++) {
                fines += finesOfHour(town.kindOf(hour), day[hour], aheadOf(day, hour));
            }
            return fines;
        }

        int leastOfChoir(Town town, int thing, int m) {
            for (int person = 0; person < MOST_PEOPLE; person++) {
                singers[person] = person < m ? thing : NOTHING;
            }
            int least = BEYOND_ALL_FINES;
            for (int hour = 0; hour < town.hours; hour++) {
                least = Math.min(least, finesOfHour(town.kindOf(hour), singers, nobody));
            }
            return least;
        }

        private int finesOfHour(int kind, int[] now, int[] ahead) {
            int fines = 0;
            for (int person = 0; person < people; person++) {
                fines += fine(kind, now, ahead, person, now[person]);
            }
            return fines;
        }

        /** What one pays who does a thing in an hour: what others do in it is told by now. */
        int fine(int kind, int[] now, int[] ahead, int person, int thing) {
            if (!isFined(kind, thing)) {
                return 0;
            }
            int others = 0;
            int lesser = 0;
            boolean withRich = person == rich;
            for (int other = 0; other < people; other++) {
                if (other == person || same[now[other]] != same[thing] || !isFined(kind, now[other])) {
                    continue;
                }
                others++;
                lesser += other < person ? 1 : 0;
                withRich = withRich || other == rich;
            }
            switch (kind) {
                case SHARED:
                case IDLE:
                    return 2 * others;
                case BOUGHT:
                    return withRich ? boughtBy(person, others) : others;
                case LISTED:
                    return lesser;
                case COPIED:
                    return wasDone(ahead, person, thing) ? lesser + 2 : lesser;
                default:
                    return others;
            }
        }

        /** By how much all pay more, if one who does nothing yet does a thing in an hour of a day. */
        int added(Town town, int[][] day, int hour, int person, int thing) {
            int kind = town.kindOf(hour);
            int more = PAIR_PAYS[kind] * othersWith(kind, day[hour], person, thing);
            if (kind == COPIED && wasDone(aheadOf(day, hour), person, thing)) {
                more += 2;
            }
            if (town.kindOf(hour + 1) == COPIED) {
                more += addedToCopies(day[hour], day[hour + 1], person, thing);
            }
            return more;
        }

        private int othersWith(int kind, int[] now, int person, int thing) {
            int others = 0;
            for (int other = 0; other < people && isFined(kind, thing); other++) {
                if (other != person && same[now[other]] == same[thing] && isFined(kind, now[other])) {
                    others++;
                }
            }
            return others;
        }

        /** What others pay more in the next hour, as they copy this: but not those who copy another one already. */
        private int addedToCopies(int[] now, int[] next, int person, int thing) {
            int more = 0;
            for (int other = 0; other < people; other++) {
                if (other != person && same[next[other]] == same[thing] && !wasDone(now, other, thing)) {
                    more += 2;
                }
            }
            return more;
        }

        private boolean isFined(int kind, int thing) {
            return thing >= 0 && thing < MOST_THINGS && (thing > 0 || kind != IDLE);
        }

        private int boughtBy(int person, int others) {
            return person == rich ? (others + 1) * others : 0;
        }

        private boolean wasDone(int[] ahead, int person, int thing) {
            for (int other = 0; other < people; other++) {
                if (other != person && same[ahead[other]] == same[thing]) {
                    return true;
                }
            }
            return false;
        }
    }

    /** Days by needs: what each one's rows are, and which he takes. */
    private static final class Days {
        /** How many things there are in an hour's prices, with nothing. */
        private static final int PLACES = NOTHING + 1;

        /** Of the last rest, list or search, by hour, then person. */
        final int[][] day = new int[MOST_HOURS][MOST_PEOPLE];
        final int[][] leastDay = new int[MOST_HOURS][MOST_PEOPLE];
        int leastFines;
        /** Of the last search: apart from leastDay, as other calls search, too. */
        private final int[][] bestDay = new int[MOST_HOURS][MOST_PEOPLE];
        private boolean leastFound;
        private int leastAsOf = NONE;
        /** By person; a row takes MOST_HOURS places. */
        private final int[][] rows = new int[MOST_PEOPLE][MOST_ORDERS * MOST_HOURS];
        private final int[] rowCount = new int[MOST_PEOPLE];
        private final int[] row = new int[MOST_HOURS];
        private final int[] pick = new int[MOST_PEOPLE];
        /** What those ahead of a person pay in a search. */
        private final int[] soFar = new int[MOST_PEOPLE];
        private final int[] order = new int[MOST_PEOPLE];
        /** By person: what a thing in an hour costs, to himself or to all; nothing costs nothing. */
        private final int[][] prices = new int[MOST_PEOPLE][MOST_HOURS * PLACES];

        /** False, if there are too many ways. Kept until the town changes, as it is asked hour by hour. */
        boolean findLeast(Town town, Court court, int changes) {
            if (leastAsOf == changes) {
                return leastFound;
            }
            leastAsOf = changes;
            writeRows(town, town.hours);
            leastFound = waysTogether(town) <= MOST_WAYS;
            if (leastFound) {
                leastFines = search(town, court, town.hours, BEYOND_ALL_FINES);
                copyDay(bestDay, leastDay);
            }
            return leastFound;
        }

        int fewestHours(Town town, Court court) {
            for (int hours = 1; hours <= MOST_HOURS; hours++) {
                writeRows(town, hours);
                if (waysTogether(town) > MOST_WAYS) {
                    return NO;
                }
                if (search(town, court, hours, 1) == 0) {
                    return hours;
                }
            }
            return NONE;
        }

        int finesByNumber(Town town, Court court) {
            startOrders(town);
            return finesInOrder(town, court);
        }

        int finesByWorstOrder(Town town, Court court) {
            startOrders(town);
            int most = finesInOrder(town, court);
            for (int i = 0; i < MOST_ORDERS && nextOrder(order, town.people); i++) {
                most = Math.max(most, finesInOrder(town, court));
            }
            return most;
        }

        private void startOrders(Town town) {
            writeRows(town, town.hours);
            for (int i = 0; i < MOST_PEOPLE; i++) {
                order[i] = i;
            }
        }

        /** The rest itself is left in day. */
        int roundOfRest(Town town, Court court) {
            writeRows(town, town.hours);
            copyDay(town.doing, day);
            for (int round = 0; round <= LAST_ROUND; round++) {
                if (!anyoneChanges(town, court)) {
                    return round;
                }
            }
            return NONE;
        }

        private boolean anyoneChanges(Town town, Court court) {
            boolean changed = false;
            for (int person = 0; person < town.people; person++) {
                setPrices(town, court, person);
                int best = bestRow(person, town.hours);
                if (priceOfRow(person, best, town.hours) < priceOfNow(person, town.hours)) {
                    layRow(person, best, town.hours);
                    changed = true;
                }
            }
            return changed;
        }

        private int finesInOrder(Town town, Court court) {
            clearDay();
            for (int i = 0; i < town.people; i++) {
                setPrices(town, court, order[i]);
                layRow(order[i], bestRow(order[i], town.hours), town.hours);
            }
            return court.finesOf(town, day, town.hours);
        }

        /** The fine of one in an hour does not hang on what he does in others: so a row costs the sum of its prices. */
        private void setPrices(Town town, Court court, int person) {
            for (int hour = 0; hour < town.hours; hour++) {
                int kind = town.kindOf(hour);
                int[] ahead = court.aheadOf(day, hour);
                for (int t = 0; t < town.things; t++) {
                    prices[person][hour * PLACES + t] = court.fine(kind, day[hour], ahead, person, t);
                }
            }
        }

        private int bestRow(int person, int hours) {
            int best = 0;
            int least = BEYOND_ALL_FINES;
            for (int r = 0; r < rowCount[person]; r++) {
                int price = priceOfRow(person, r, hours);
                if (price < least) {
                    least = price;
                    best = r;
                }
            }
            return best;
        }

        private int priceOfRow(int person, int r, int hours) {
            int sum = 0;
            for (int hour = 0; hour < hours; hour++) {
                sum += prices[person][hour * PLACES + rows[person][r * MOST_HOURS + hour]];
            }
            return sum;
        }

        private int priceOfNow(int person, int hours) {
            int sum = 0;
            for (int hour = 0; hour < hours; hour++) {
                sum += prices[person][hour * PLACES + day[hour][person]];
            }
            return sum;
        }

        /**
         * The least fines of a day, if they are below a bound, else the bound; the first such day is left in bestDay.
         * One more who does something never makes all pay less: so people who pay too much already need no others.
         */
        private int search(Town town, Court court, int hours, int bound) {
            int least = bound;
            int person = 0;
            clearDay();
            startPerson(town, court, 0, 0, hours);
            for (int step = 0; step < MOST_STEPS && person >= 0 && least > 0; step++) {
                pick[person]++;
                if (pick[person] >= rowCount[person]) {
                    liftRow(person);
                    person--;
                    continue;
                }
                int fines = soFar[person] + priceOfRow(person, pick[person], hours);
                if (fines >= least) {
                    continue;
                }
                layRow(person, pick[person], hours);
                if (person < town.people - 1) {
                    person++;
                    startPerson(town, court, person, fines, hours);
                } else {
                    least = fines;
                    copyDay(day, bestDay);
                }
            }
            return least;
        }

        /** His prices are what all pay more: a sum over hours, too, as who copies one does not copy himself. */
        private void startPerson(Town town, Court court, int person, int fines, int hours) {
            pick[person] = -1;
            soFar[person] = fines;
            for (int hour = 0; hour < hours; hour++) {
                for (int t = 0; t < town.things; t++) {
                    if (town.needs[person][t] > 0) {
                        prices[person][hour * PLACES + t] = court.added(town, day, hour, person, t);
                    }
                }
            }
        }

        private static void copyDay(int[][] source, int[][] copy) {
            for (int hour = 0; hour < MOST_HOURS; hour++) {
                System.arraycopy(source[hour], 0, copy[hour], 0, MOST_PEOPLE);
            }
        }

        private void clearDay() {
            for (int person = 0; person < MOST_PEOPLE; person++) {
                liftRow(person);
            }
        }

        private void liftRow(int person) {
            for (int hour = 0; hour < MOST_HOURS; hour++) {
                day[hour][person] = NOTHING;
            }
        }

        private void layRow(int person, int r, int hours) {
            for (int hour = 0; hour < hours; hour++) {
                day[hour][person] = rows[person][r * MOST_HOURS + hour];
            }
        }

        private long waysTogether(Town town) {
            long ways = 1;
            for (int person = 0; person < town.people; person++) {
                ways *= rowCount[person];
            }
            return ways;
        }

        private void writeRows(Town town, int hours) {
            for (int person = 0; person < town.people; person++) {
                rowCount[person] = 0;
                if (town.needed(person) <= hours) {
                    writeRowsOf(town, person, hours);
                }
            }
        }

        private void writeRowsOf(Town town, int person, int hours) {
            writeFirstRow(town, person, hours);
            for (int r = 0; r < MOST_ORDERS; r++) {
                System.arraycopy(row, 0, rows[person], r * MOST_HOURS, hours);
                rowCount[person]++;
                if (!nextOrder(row, hours)) {
                    return;
                }
            }
        }

        private void writeFirstRow(Town town, int person, int hours) {
            Arrays.fill(row, NOTHING);
            int hour = 0;
            for (int t = 0; t < town.things; t++) {
                for (int i = 0; i < town.needs[person][t] && hour < hours; i++) {
                    row[hour] = t;
                    hour++;
                }
            }
        }
    }

    /** What all may have done in an hour, by what they paid. */
    private static final class Past {
        int found;
        final int[] first = new int[MOST_PEOPLE];
        private final int[] now = new int[MOST_PEOPLE];
        private final int[] pick = new int[MOST_PEOPLE];
        private int asOf = NONE;
        private int asOfHour;

        /** What was found is kept until the town changes, as it is asked person by person. */
        void findWays(Town town, Court court, int hour, int changes) {
            if (asOf == changes && asOfHour == hour) {
                return;
            }
            asOf = changes;
            asOfHour = hour;
            found = 0;
            int person = 0;
            Arrays.fill(now, NOTHING);
            pick[0] = -1;
            for (int step = 0; step < MOST_STEPS && person >= 0; step++) {
                pick[person]++;
                if (pick[person] > town.things) {
                    now[person] = NOTHING;
                    person--;
                    continue;
                }
                now[person] = pick[person] == town.things ? NOTHING : pick[person];
                if (!mayHavePaid(town, court, hour, person)) {
                    continue;
                }
                if (person < town.people - 1) {
                    person++;
                    pick[person] = -1;
                } else {
                    countWay();
                }
            }
        }

        /**
         * Whether what is told can still be so, when people up to last have their things.
         * Those yet to come never take from a fine: but RICH, who takes all of it on himself where it is BOUGHT.
         */
        private boolean mayHavePaid(Town town, Court court, int hour, int last) {
            int kind = town.kindOf(hour);
            int[] ahead = court.aheadOf(town.doing, hour);
            int toCome = town.people - 1 - last;
            boolean mayFall = kind == BOUGHT && toCome > 0;
            for (int person = 0; person <= last; person++) {
                int fine = court.fine(kind, now, ahead, person, now[person]);
                int most = fine + toCome * NEXT_ONE_ADDS[kind];
                if (town.paid[person] > most || (town.paid[person] < fine && !mayFall)) {
                    return false;
                }
            }
            return true;
        }

        private void countWay() {
            if (found == 0) {
                System.arraycopy(now, 0, first, 0, MOST_PEOPLE);
            }
            found++;
        }
    }

    /** The text, and the town that it tells. */
    private static final class Text {
        private static final int END = 0;
        private static final int WORD = 1;
        private static final int NUMBER = 2;
        private static final int STOP = 3;
        private static final int ODD = 4;

        private final byte[] bytes = new byte[MOST_BYTES];
        int length;
        private int place;
        private int token;
        private int start;
        private int fault;
        /** Whether people and hours can no more change, as something hangs on them. */
        private boolean settled;

        void append(byte b) {
            if (length < MOST_BYTES) {
                bytes[length] = b;
                length++;
            }
        }

        /** How many items there are, or -10 less the fault: then the draft is of no use. */
        int readInto(Town draft) {
            draft.begin();
            place = 0;
            fault = NONE;
            settled = false;
            int items = 0;
            nextToken();
            for (int i = 0; i < MOST_BYTES && token != END && fault == NONE; i++) {
                readItem(draft);
                items++;
                nextToken();
            }
            return fault == NONE ? items : FAULT_AT_0 - fault;
        }

        private void readItem(Town draft) {
            if (token != WORD) {
                fail();
            } else if (spells("thing")) {
                readThing(draft);
            } else if (spells("people")) {
                readPeople(draft);
            } else if (spells("hours")) {
                readHours(draft);
            } else if (spells("hour")) {
                readHour(draft);
            } else if (spells("line")) {
                readLine(draft);
            } else if (spells("rich")) {
                readRich(draft);
            } else if (spells("does")) {
                readDoes(draft);
            } else if (spells("need")) {
                readNeed(draft);
            } else {
                fail();
            }
        }

        private void readThing(Town draft) {
            if (draft.things >= MOST_THINGS) {
                fail();
                return;
            }
            int above = NONE;
            nextToken();
            if (token == NUMBER) {
                above = figure();
                if (!draft.hasThing(above)) {
                    fail();
                    return;
                }
                nextToken();
            }
            if (token != STOP) {
                fail();
                return;
            }
            draft.addThing(above);
        }

        private void readPeople(Town draft) {
            if (settled) {
                fail();
            }
            int n = number(1, MOST_PEOPLE);
            if (stops()) {
                draft.people = n;
            }
        }

        private void readHours(Town draft) {
            if (settled) {
                fail();
            }
            int n = number(1, MOST_HOURS);
            if (stops()) {
                draft.hours = n;
            }
        }

        private void readHour(Town draft) {
            settled = true;
            int hour = number(0, draft.hours - 1);
            int kind = number(0, LAST_KIND);
            if (stops() && draft.hasHour(hour)) {
                draft.kinds[hour] = kind;
            }
        }

        private void readLine(Town draft) {
            int n = number(0, LAST_LINE);
            if (stops()) {
                draft.line = n;
            }
        }

        private void readRich(Town draft) {
            settled = true;
            int person = number(0, draft.people - 1);
            if (stops()) {
                draft.rich = person;
            }
        }

        private void readDoes(Town draft) {
            settled = true;
            int person = number(0, draft.people - 1);
            int hour = number(0, draft.hours - 1);
            int thing = number(0, draft.things - 1);
            if (stops() && draft.hasHour(hour) && draft.hasPerson(person)) {
                draft.doing[hour][person] = thing;
            }
        }

        private void readNeed(Town draft) {
            settled = true;
            int person = number(0, draft.people - 1);
            int thing = number(0, draft.things - 1);
            if (!draft.hasPerson(person) || !draft.hasThing(thing)) {
                return;
            }
            int n = number(0, draft.mostNeeded(person, thing));
            if (stops()) {
                draft.needs[person][thing] = n;
            }
        }

        /** Where the text ends too early, the token that can not stand begins at its end. */
        private void fail() {
            if (fault == NONE) {
                fault = start;
            }
        }

        /** The number that stands next, if it is as told; behind a fault there is none. */
        private int number(int low, int high) {
            if (fault != NONE) {
                return NONE;
            }
            nextToken();
            if (token != NUMBER || !within(figure(), low, high)) {
                fail();
                return NONE;
            }
            return figure();
        }

        private boolean stops() {
            if (fault == NONE) {
                nextToken();
                if (token != STOP) {
                    fail();
                }
            }
            return fault == NONE;
        }

        private void nextToken() {
            while (place < length && bytes[place] == ' ') {
                place++;
            }
            start = place;
            if (place >= length) {
                token = END;
                return;
            }
            byte b = bytes[place];
            place++;
            if (isLetter(b)) {
                token = WORD;
                while (place < length && isLetter(bytes[place])) {
                    place++;
                }
            } else if (isFigure(b)) {
                while (place < length && isFigure(bytes[place])) {
                    place++;
                }
                token = place == start + 1 ? NUMBER : ODD;
            } else {
                token = b == ';' ? STOP : ODD;
            }
        }

        private int figure() {
            return start < length ? bytes[start] - '0' : NONE;
        }

        private boolean spells(String word) {
            if (word.length() != place - start) {
                return false;
            }
            for (int i = 0; i < word.length(); i++) {
                if (bytes[start + i] != word.charAt(i)) {
                    return false;
                }
            }
            return true;
        }

        private static boolean isLetter(byte b) {
            return b >= 'a' && b <= 'z';
        }

        private static boolean isFigure(byte b) {
            return b >= '0' && b <= '9';
        }
    }
}
