/** The edges of promises 14 to 17: each sentence of the document that names one has a run of its own. */
public final class DaysEdgesTest {
    /** 10 * 10 * 10 * 10 * 5 ways: just 50000. */
    private static final String JUST_50000 = Given.TWO + "town(5,5)=1 need(0,0,2)=0 need(1,0,2)=0 need(2,0,2)=0 need(3,0,2)=0 need(4,0,1)=0 ";
    /** 30 * 30 * 60 ways. */
    private static final String WITH_54000 = Given.NINE + "town(5,5)=1 need(0,0,2)=0 need(0,1,2)=0 need(1,0,2)=0 need(1,1,2)=0 need(2,0,1)=0 need(2,1,1)=0 need(2,2,1)=0 ";
    /** 24 * 12 * 12 * 4 * 4 ways in 4 HOURS, 55296: and a day without fines among them, but none in 3. */
    private static final String WITH_55296 = Given.NINE + "town(5,4)=1 need(0,0,1)=0 need(0,1,1)=0 need(0,2,1)=0 need(0,3,1)=0 "
        + "need(1,4,1)=0 need(1,5,1)=0 need(2,6,1)=0 need(2,7,1)=0 need(3,8,1)=0 need(4,8,1)=0 ";

    public static void main(String[] args) {
        days();
        leastByKinds();
        theFirstOfLikeOnes();
        waysTogether();
        leastRefused();
        fewest();
        fewestByKinds();
        fewestRefused();
        lists();
        theGreatestOfAllOrders();
        rests();
        whoChanges();
        theLastOfAllRows();
        lateRests();
        Run.end();
    }

    private static void days() {
        Run.holds("14: how much (person = NONE, hour = 0): who needs nothing", "least(-1,0)=0 town(1,1)=1 least(-1,0)=0 town(5,5)=1 least(-1,0)=0");
        Run.holds("14: in others nothing (9)", Given.NINE + "least(0,0)=9 least(2,3)=9 need(2,8,1)=0 least(2,0)=8 least(2,1)=9 least(2,3)=9 least(0,0)=9");
        Run.holds("14: in as many HOURS as he needs it: all of them", Given.TWO + "town(1,5)=1 need(0,1,5)=0 least(-1,0)=0 least(0,0)=1 least(0,4)=1");
        Run.holds("14: in as many HOURS as he needs it: all but one", Given.TWO + "town(1,5)=1 need(0,1,4)=0 least(0,0)=1 least(0,3)=1 least(0,4)=9");
        Run.holds("14: whatever is done now", Given.TWO + "need(0,0,1)=0 does(0,0,1)=-1 does(1,0,1)=-1 does(2,0,0)=-1 least(-1,0)=0 least(0,0)=0 least(1,0)=9 least(2,0)=9");
        new Run("14: the day is not done by it").go(Given.TWO + "need(0,0,1)=0 need(1,0,1)=0 does(2,0,0)=-1").leaves("least(-1,0)=0 least(0,0)=0 least(1,1)=0");
        Run.holds("14: ALL is least: one way only", Given.TWO + "town(5,1)=1 put(0,0,1)=0 need(0,1,1)=0 need(1,1,1)=0 need(2,1,1)=0 need(3,1,1)=0 need(4,1,1)=0 least(-1,0)=40 least(4,0)=1");
        Run.holds("14: ALL is least: the last ROW of each", Given.TWO + "town(2,2)=1 put(0,0,1)=0 put(0,1,4)=0 need(0,0,2)=0 need(1,0,1)=0 least(-1,0)=0 least(1,0)=9 least(1,1)=0");
    }

    private static void leastByKinds() {
        Run one = new Run("14: ALL of those who can not part, by KIND").go(Given.TWO + "town(3,1)=1 need(0,1,1)=0 need(1,1,1)=0 need(2,1,1)=0 least(-1,0)=6");
        one.go("put(0,0,1)=0 least(-1,0)=12 put(0,0,2)=1 least(-1,0)=6 put(0,0,3)=2 least(-1,0)=3 put(0,0,4)=3 least(-1,0)=12 put(0,0,5)=4 least(-1,0)=3");
        Run.holds("14: BOUGHT: as much, whoever is RICH", Given.TWO + "town(2,1)=1 put(0,0,2)=0 need(0,1,1)=0 need(1,1,1)=0 least(-1,0)=2 put(2,0,1)=0 least(-1,0)=2");
        Run.holds("14: IDLE: THING 0 itself", Given.TWO + "town(3,1)=1 put(0,0,4)=0 need(0,0,1)=0 need(1,0,1)=0 need(2,0,1)=0 least(-1,0)=0");
        // both in HOUR 1 pay 1 as LISTED; one behind the other would pay 2
        Run.holds("14: COPIED: 2 pennies behind another one, 1 beside him", Given.TWO + "town(2,2)=1 put(0,0,1)=0 put(0,1,5)=0 need(0,0,1)=0 need(1,0,1)=0 least(-1,0)=1 least(0,0)=9 least(0,1)=0 least(1,0)=9 least(1,1)=0");
        Run.holds("14: COPIED: both in both HOURS: 4, 1 + 2 + 2", Given.TWO + "town(2,2)=1 put(0,0,1)=0 put(0,1,5)=0 need(0,0,2)=0 need(1,0,2)=0 least(-1,0)=9");
        Run.holds("14: COPIED: one behind himself and another one", Given.TWO + "town(2,2)=1 put(0,0,1)=0 put(0,1,5)=0 need(0,0,2)=0 need(1,0,1)=0 least(-1,0)=3 least(1,0)=9 least(1,1)=0");
        Run.holds("14: COPIED: 2 pennies, though two did it", Given.TWO + "town(3,2)=1 put(0,0,3)=0 put(0,1,5)=0 need(0,0,2)=0 need(1,0,2)=0 need(2,0,2)=0 least(-1,0)=12");
    }

    private static void theFirstOfLikeOnes() {
        Run.holds("14: of like ones the first: by HOUR 0", Given.TWO + "town(1,3)=1 need(0,0,1)=0 least(0,0)=0 least(0,1)=9 least(0,2)=9");
        Run.holds("14: of like ones the first: THINGS rising", Given.TWO + "town(1,2)=1 need(0,1,1)=0 need(0,0,1)=0 least(0,0)=0 least(0,1)=1");
        Run.holds("14: of like ones the first: nothing behind all", Given.NINE + "town(1,2)=1 need(0,8,1)=0 least(0,0)=8 least(0,1)=9");
        Run.holds("14: of like ones the first: by PERSON 0's ROWS, then 1's", Given.TWO + "town(3,3)=1 need(0,0,1)=0 need(1,0,1)=0 need(2,0,1)=0 "
            + "least(0,0)=0 least(0,1)=9 least(1,0)=9 least(1,1)=0 least(1,2)=9 least(2,0)=9 least(2,1)=9 least(2,2)=0");
        Run.holds("14: of like ones the first: PERSON 0's ROWS count more than 1's", Given.TWO + "town(2,2)=1 need(0,1,1)=0 need(1,0,1)=0 need(1,1,1)=0 "
            + "least(-1,0)=0 least(0,0)=1 least(0,1)=9 least(1,0)=0 least(1,1)=1");
    }

    private static void waysTogether() {
        Run.holds("14: 50000 ways are not more than 50000", JUST_50000 + "least(-1,0)=8 least(0,0)=0 least(0,1)=0 least(0,2)=9 least(1,0)=0 least(1,1)=0 least(1,2)=9 "
            + "least(2,1)=9 least(2,2)=0 least(2,3)=0 least(3,2)=0 least(3,3)=0 least(4,3)=9 least(4,4)=0 status(1)=0");
        new Run("14: NO: 54000 ways").go(WITH_54000).refused("least(-1,0)=-3 least(0,0)=-3 least(4,4)=-3");
        new Run("14: NO: 55296 ways in 4 HOURS").go(WITH_55296).refused("least(-1,0)=-3 least(0,0)=-3").go("need(4,8,0)=1 least(-1,0)=0 status(1)=2");
        Run.holds("14: 48000 ways", Given.NINE + "town(5,5)=1 need(0,0,1)=0 need(0,1,1)=0 need(1,0,1)=0 need(1,1,1)=0 need(2,0,1)=0 need(2,1,1)=0 need(2,2,1)=0 need(2,3,1)=0 need(2,4,1)=0 "
            + "least(-1,0)=0 least(0,0)=0 status(1)=0");
        Run most = new Run("14: NO: 120 ways of each of 5").go(Given.NINE + "town(5,5)=1");
        for (int p = 0; p < 5; p++) {
            for (int t = 0; t < 5; t++) most.go("need(" + p + "," + t + ",1)=0");
        }
        most.refused("least(-1,0)=-3 fewest()=-3").go("list(0)=0 rests(0)=0");
    }

    private static void leastRefused() {
        new Run("14: BAD: NONE, and an HOUR but 0").go(Given.TWO).refused("least(-1,1)=-2 least(-1,3)=-2 least(-1,-1)=-2 least(-1," + Given.MIN + ")=-2 least(-1," + Given.MAX + ")=-2");
        new Run("14: BAD: none of PEOPLE").go(Given.TWO).refused("least(3,0)=-2 least(-2,0)=-2 least(" + Given.MIN + ",0)=-2 least(" + Given.MAX + ",0)=-2");
        new Run("14: BAD: no HOUR").go(Given.TWO).refused("least(0,4)=-2 least(0,-1)=-2 least(0," + Given.MIN + ")=-2 least(0," + Given.MAX + ")=-2");
        new Run("14: BAD is ahead of NO").go(WITH_54000).refused("least(5,0)=-2 least(0,5)=-2 least(-1,1)=-2");
        Run.holds("14: NO no more, when one needs less", WITH_54000 + "least(-1,0)=-3 need(2,2,0)=1 least(-1,0)=0 need(2,2,1)=0 least(-1,0)=-3 status(1)=2");
    }

    private static void fewest() {
        Run.holds("15: the least H (1 .. 5): 1 at least", "fewest()=1 town(1,1)=1 fewest()=1 town(5,5)=1 fewest()=1");
        Run.holds("15: the least H: just as many as one needs", Given.TWO + "town(1,5)=1 need(0,0,1)=0 fewest()=1 need(0,0,2)=1 fewest()=2 need(0,1,2)=0 fewest()=4 need(0,1,3)=2 fewest()=5");
        Run.holds("15: the least H: 5 at most", Given.TWO + "town(2,5)=1 need(0,0,3)=0 need(1,0,2)=0 fewest()=5");
        Run.holds("15: none", Given.TWO + "town(2,5)=1 need(0,0,3)=0 need(1,0,3)=0 fewest()=-1 status(0)=0 status(1)=0 status(2)=0");
        Run.holds("15: more H than there are", Given.TWO + "town(5,1)=1 need(0,1,1)=0 fewest()=1 need(1,1,1)=0 fewest()=2 need(2,1,1)=0 fewest()=3 need(3,1,1)=0 fewest()=4 need(4,1,1)=0 fewest()=5");
        new Run("15: H stays").go(Given.TWO + "town(2,1)=1 need(0,0,1)=0 need(1,0,1)=0").leaves("fewest()=2 count(2)=1");
        Run.holds("15: whatever is done now", Given.TWO + "does(0,0,0)=-1 does(1,0,0)=-1 fewest()=1 all()=2");
    }

    private static void fewestByKinds() {
        Run.holds("15: HOURS of KINDS as told", Given.TWO + "town(3,2)=1 need(0,0,1)=0 need(1,0,1)=0 need(2,0,1)=0 fewest()=3 put(0,1,4)=0 fewest()=2 put(0,0,4)=0 fewest()=1");
        // in a COPIED HOUR 1 who comes behind another one would pay
        Run.holds("15: beyond H as at first", Given.TWO + "town(2,1)=1 put(0,0,5)=0 need(0,1,1)=0 need(1,1,1)=0 fewest()=2 town(2,2)=1 put(0,0,5)=0 put(0,1,5)=0 need(0,1,1)=0 need(1,1,1)=0 fewest()=3");
        Run.holds("15: beyond H as at first: not as they were", Given.TWO + "town(2,5)=1 put(0,1,5)=0 put(0,2,5)=0 town(2,1)=1 need(0,1,1)=0 need(1,1,1)=0 fewest()=2");
        Run.holds("15: an HOUR beyond the last that counts does not copy", Given.TWO + "town(1,5)=1 put(0,1,5)=0 need(0,0,1)=0 fewest()=1");
    }

    private static void fewestRefused() {
        new Run("15: NO: for some H up to that: for 5, where there is none").go("thing(-1)=0 thing(0)=1 put(1,0,0)=4 town(4,3)=1 need(0,0,1)=0 need(0,1,1)=0 "
            + "need(1,0,1)=0 need(1,1,1)=0 need(2,0,1)=0 need(2,1,1)=0 need(3,0,1)=0 need(3,1,1)=0").refused("fewest()=-3").go("least(-1,0)=14 status(1)=1");
        new Run("15: NO: for some H up to that: for that itself").go(WITH_55296).refused("fewest()=-3").go("need(4,8,0)=1 fewest()=4");
        Run.holds("15: NO: not for one beyond that", WITH_55296 + "need(4,8,0)=1 fewest()=4 town(5,5)=1 need(0,0,1)=0 need(0,1,1)=0 need(0,2,1)=0 need(0,3,1)=0 "
            + "need(1,4,1)=0 need(1,5,1)=0 need(2,6,1)=0 need(2,7,1)=0 need(3,8,1)=0 least(-1,0)=-3 fewest()=4 status(1)=1");
        Run.holds("15: 50000 ways are not more than 50000", JUST_50000 + "fewest()=-1 status(1)=0 need(4,0,2)=1 fewest()=-3 status(1)=1");
    }

    private static void lists() {
        Run.holds("16: who needs nothing", "list(0)=0 list(1)=0 town(1,1)=1 list(0)=0 list(1)=0 town(5,5)=1 list(0)=0 list(1)=0");
        Run.holds("16: one alone", Given.TWO + "town(1,5)=1 put(0,0,1)=0 need(0,0,5)=0 list(0)=0 list(1)=0");
        // 0 takes HOUR 0, where 1 will cost all 2 pennies, and not SHARED HOUR 1
        Run.holds("16: who has not come does nothing", Given.TWO + "town(2,2)=1 put(0,1,1)=0 need(0,0,1)=0 need(1,0,2)=0 does(1,0,0)=-1 list(0)=2 list(1)=2");
        Run.holds("16: the first of his ROWS by which he pays least", Given.TWO + "town(2,2)=1 put(0,0,5)=0 put(0,1,4)=0 need(0,0,2)=0 need(1,0,1)=0 list(0)=0 list(1)=1");
        Run.holds("16: ALL behind it: not what each paid as he came", Given.TWO + "town(2,1)=1 need(0,0,1)=0 need(1,0,1)=0 list(0)=2 put(0,0,1)=0 list(0)=4 list(1)=4");
        new Run("16: nothing is done by it").go(Given.TWO + "need(0,0,1)=0 need(1,0,1)=0 does(2,0,0)=-1").leaves("list(0)=0 list(1)=0");
        Run.holds("16: however many ways there are", WITH_54000 + "least(-1,0)=-3 list(0)=2 status(1)=1");
        new Run("16: BAD").go(Given.TWO).refused("list(2)=-2 list(-1)=-2 list(" + Given.MIN + ")=-2 list(" + Given.MAX + ")=-2");
    }

    /** Each of these has one worst order alone. */
    private static void theGreatestOfAllOrders() {
        Run.holds("16: the greatest of all orders: numbers rising", Given.TWO + "town(5,2)=1 put(0,0,3)=0 put(0,1,1)=0 need(0,0,1)=0 need(0,1,1)=0 need(1,0,1)=0 need(2,0,2)=0 need(3,0,1)=0 need(3,1,1)=0 need(4,1,2)=0 "
            + "list(0)=19 list(1)=19");
        Run.holds("16: the greatest of all orders: 4, 3, 2, 1, 0", Given.TWO + "town(5,2)=1 put(0,0,3)=0 put(0,1,1)=0 need(0,0,1)=0 need(1,0,1)=0 need(2,0,1)=0 need(3,0,1)=0 need(3,1,1)=0 need(4,0,1)=0 "
            + "list(0)=7 list(1)=10");
        Run.holds("16: the greatest of all orders: 4, 3, 2, 0, 1", Given.TWO + "town(5,2)=1 put(0,1,3)=0 put(2,0,3)=0 need(0,0,1)=0 need(0,1,1)=0 need(1,0,2)=0 need(2,0,1)=0 need(2,1,1)=0 need(3,1,1)=0 need(4,1,2)=0 "
            + "list(0)=10 list(1)=12");
        Run.holds("16: the greatest of all orders: 2, 3, 0, 1, 4", Given.TWO + "town(5,2)=1 put(0,0,5)=0 put(0,1,2)=0 need(0,0,1)=0 need(0,1,1)=0 need(1,0,2)=0 need(2,1,1)=0 need(3,1,1)=0 need(4,0,1)=0 "
            + "list(0)=5 list(1)=7");
        Run.holds("16: the greatest of all orders of 3: 2, 1, 0", Given.TWO + "town(3,2)=1 put(0,0,5)=0 put(0,1,4)=0 need(0,0,2)=0 need(1,0,1)=0 need(2,0,1)=0 list(0)=0 list(1)=3");
        Run.holds("16: the greatest of all orders of 3: 2, 0, 1", Given.TWO + "town(3,3)=1 put(0,1,4)=0 put(0,2,4)=0 put(2,0,2)=0 need(0,0,1)=0 need(0,1,1)=0 need(1,0,1)=0 need(1,1,2)=0 need(2,0,2)=0 list(0)=0 list(1)=2");
    }

    private static void rests() {
        Run.holds("17: the first round (0 ..) in which nobody changes: 0", "rests(0)=0 rests(1)=0 town(1,1)=1 rests(0)=0 rests(1)=0");
        Run.holds("17: how many rounds were ahead: 1", Given.TWO + "does(0,0,0)=-1 does(1,0,0)=-1 rests(0)=1 rests(1)=0");
        // RICH flees from 1, and 1 follows him to be rid of his own fine
        Run never = Run.holds("17: NONE; -5: it does not rest", "thing(-1)=0 town(3,2)=1 put(0,0,2)=0 put(0,1,2)=0 need(0,0,1)=0 need(1,0,1)=0 need(2,0,2)=0 "
            + "does(2,0,0)=-1 does(2,1,0)=-1 does(0,0,0)=-1 does(1,0,0)=-1 rests(0)=-1 rests(1)=-5");
        never.go("status(0)=0 status(1)=0 status(2)=0");
        new Run("17: nothing is done by it").go(Given.TWO + "need(0,1,2)=0 does(0,0,0)=-1 does(1,0,0)=-1").leaves("rests(0)=1 rests(1)=0 all()=2 does(0,0,0)=0 undo()=1");
        new Run("17: BAD: -10").go(Given.TWO).refused("rests(2)=-10 rests(-1)=-10 rests(" + Given.MIN + ")=-10 rests(" + Given.MAX + ")=-10");
        Run.holds("17: however many ways there are", WITH_54000 + "least(-1,0)=-3 rests(0)=0 rests(1)=0");
    }

    private static void whoChanges() {
        Run.holds("17: if it is less than he pays now: as much is not", Given.TWO + "town(2,1)=1 put(0,0,3)=0 need(1,0,1)=0 does(0,0,0)=-1 does(1,0,0)=-1 rests(0)=0 rests(1)=1");
        Run.holds("17: who pays nothing does not change, whatever he needs", Given.TWO + "need(0,0,4)=0 need(1,0,4)=0 rests(0)=0 rests(1)=0 does(0,0,1)=-1 rests(0)=0");
        Run.holds("17: PEOPLE in turn, as others do then", Given.TWO + "town(2,2)=1 need(0,0,1)=0 need(1,0,1)=0 does(0,0,0)=-1 does(1,0,0)=-1 rests(0)=1 rests(1)=0");
        // 0 needs it once and has no better HOUR, so it is 1 who goes
        Run.holds("17: PEOPLE in turn: the last one, too", Given.TWO + "town(2,1)=1 need(0,0,1)=0 does(0,0,0)=-1 does(1,0,0)=-1 all()=2 rests(0)=1 rests(1)=0");
        Run.holds("17: the first of his ROWS by which he pays least", Given.TWO + "town(2,3)=1 put(0,1,2)=0 put(0,2,1)=0 put(2,0,1)=0 need(0,0,1)=0 need(1,0,3)=0 "
            + "does(1,0,0)=-1 does(1,1,0)=-1 does(1,2,0)=-1 does(0,2,0)=-1 all()=4 rests(0)=1 rests(1)=2");
    }

    /** Others leave one THING free in each HOUR, 4 first, 0 last: so of 120 ROWS only the last costs nothing. */
    private static void theLastOfAllRows() {
        Run run = new Run("17: all his ways: the last of 120").go(Given.NINE + "town(5,5)=1");
        for (int p = 0; p < 5; p++) {
            for (int i = 0; i < 5; i++) {
                int taken = p == 0 ? 1 : p;
                run.go("need(" + p + "," + i + ",1)=0 does(" + p + "," + i + "," + (4 - i + taken) % 5 + ")=-1");
            }
        }
        run.go("all()=10 rests(0)=1 rests(1)=0");
    }

    /** Towns that rest in the last round that is looked at, and in the one behind it. */
    private static void lateRests() {
        Run last = new Run("17: the first round (0 .. 20): 20").go("thing(-1)=0 thing(-1)=1 town(5,5)=1 put(2,0,1)=0")
            .go("put(0,0,2)=0 put(0,1,5)=0 put(0,2,5)=0 put(0,3,5)=0 put(0,4,5)=0")
            .go("need(0,0,1)=0 need(1,1,1)=0 need(1,0,1)=0 need(2,0,3)=0 need(3,1,2)=0 need(4,1,3)=0 need(4,0,2)=0");
        allDo(last, "10100", "00101", "01111", "11110", "10110");
        last.go("rests(0)=20 rests(1)=19");
        Run later = new Run("17: none: it would be 21").go("thing(-1)=0 thing(0)=1 town(5,5)=1")
            .go("put(0,1,5)=0 put(0,2,5)=0 put(0,3,5)=0 put(0,4,5)=0")
            .go("need(0,1,2)=0 need(0,0,1)=0 need(1,1,2)=0 need(1,0,1)=0 need(2,0,1)=0 need(2,1,3)=0 need(3,0,3)=0 need(4,1,1)=0");
        allDo(later, "00000", "00110", "10000", "00101", "01100");
        later.go("rests(0)=-1 rests(1)=-5 status(0)=0 status(1)=0");
    }

    /** What each one does, hour by hour. */
    private static void allDo(Run run, String... people) {
        for (int p = 0; p < people.length; p++) {
            for (int h = 0; h < people[p].length(); h++) run.go("does(" + p + "," + h + "," + people[p].charAt(h) + ")=-1");
        }
    }
}
