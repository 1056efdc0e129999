/** The edges of promises 22 to 26: each sentence of the document that names one has a run of its own. */
public final class PastEdgesTest {
    public static void main(String[] args) {
        told();
        howManyWays();
        theFirstWay();
        theHourAhead();
        didRefused();
        copied();
        copiedBoundaries();
        crowds();
        lowestTerms();
        crowdsRefused();
        parts();
        Run.end();
    }

    private static void told() {
        Run.holds("22: 0 .. 40 each: what was told", "told(0,40)=0 told(0,0)=40 told(0,0)=0 told(2,1)=0 told(2,40)=1 told(1,0)=0");
        new Run("22: BAD: pennies").go("told(0,7)=0").refused("told(0,41)=-2 told(0,-1)=-2 told(0," + Given.MIN + ")=-2 told(0," + Given.MAX + ")=-2").go("told(0,7)=7");
        new Run("22: BAD: none of PEOPLE").refused("told(3,0)=-2 told(-1,0)=-2 told(" + Given.MIN + ",0)=-2 told(" + Given.MAX + ",0)=-2").go("town(1,1)=1 told(0,0)=0").refused("told(1,0)=-2");
        Run.holds("22: a row of n: 5", "town(5,5)=1 told(4,40)=0 told(4,0)=40 told(5,0)=-2");
    }

    private static void howManyWays() {
        Run.holds("23: how many ways: no THINGS: all did nothing", "did(0,-1)=1 did(3,-1)=1 did(0,0)=9 did(3,2)=9");
        Run.holds("23: how many ways: one alone", Given.CHAIN + "town(1,1)=1 did(0,-1)=10 did(0,0)=0 told(0,1)=0 did(0,-1)=0");
        Run.holds("23: how many ways: none", Given.THREE + "told(0,1)=0 did(0,-1)=0 status(0)=0 status(1)=0 status(2)=0");
        Run.holds("23: -5: there is none", Given.THREE + "told(0,1)=0 did(0,0)=-5 did(0,2)=-5 did(3,2)=-5 status(0)=0 status(1)=0 status(2)=0");
        Run.holds("23: there is none for 40 pennies, whatever the KIND", Given.THREE + "town(5,5)=1 told(0,40)=0 did(0,-1)=0 put(0,0,1)=0 did(0,-1)=0 put(0,0,2)=1 did(0,-1)=0 put(0,0,5)=2 did(0,-1)=0");
        // all five did a SAME one: 9 * 9 * 9 * 9 * 9 ways
        Run.holds("23: how many ways: the most fines of LISTED", Given.CHAIN + "put(1,0,0)=4 town(5,1)=1 put(0,0,3)=0 told(1,1)=0 told(2,2)=0 told(3,3)=0 told(4,4)=0 did(0,-1)=59049 did(0,0)=0 did(0,4)=0 told(0,1)=0 did(0,-1)=0");
        Run.holds("23: how many ways: the most fines of BOUGHT", Given.CHAIN + "put(1,0,0)=4 town(5,1)=1 put(0,0,2)=0 put(2,0,4)=0 told(4,20)=0 did(0,-1)=59049 told(4,21)=20 did(0,-1)=0 told(4,19)=21 did(0,-1)=0");
        Run.holds("23: how many ways: the most fines of BOUGHT: RICH is the first", Given.CHAIN + "put(1,0,0)=4 town(5,1)=1 put(0,0,2)=0 told(0,20)=0 did(0,-1)=59049 told(0,12)=20 did(0,-1)=26244 did(0,4)=9");
        Run all = new Run("23: how many ways: the most fines of HOUR, SHARED, IDLE").go(Given.CHAIN + "put(1,0,0)=4 town(5,1)=1");
        for (int p = 0; p < 5; p++) all.go("told(" + p + ",4)=0");
        all.go("did(0,-1)=59049 put(0,0,1)=0 did(0,-1)=0");
        for (int p = 0; p < 5; p++) all.go("told(" + p + ",8)=4");
        all.go("did(0,-1)=59049 put(0,0,4)=1 did(0,-1)=32768 did(0,0)=1 put(0,0,0)=4 did(0,-1)=0");
        Run.holds("23: how many ways: one at most did it", Given.CHAIN + "put(1,0,0)=4 town(5,1)=1 did(0,-1)=46 did(0,0)=0 did(0,4)=9");
    }

    private static void theFirstWay() {
        Run.holds("23: the first: THINGS rising", Given.THREE + "town(1,1)=1 did(0,0)=0");
        Run.holds("23: the first: nothing behind all (9)", "thing(-1)=0 town(2,1)=1 did(0,-1)=3 did(0,0)=0 did(0,1)=9");
        Run.holds("23: the first: PERSON 0's THINGS ahead of 1's", Given.THREE + "town(2,1)=1 did(0,0)=0 did(0,1)=1");
        Run.holds("23: the first: it is not the first of all ways", Given.THREE + "town(3,1)=1 told(1,1)=0 told(2,1)=0 did(0,-1)=9 did(0,0)=0 did(0,1)=1 did(0,2)=1");
        Run.holds("23: the first: the last of all ways", "thing(-1)=0 town(2,2)=1 put(0,1,5)=0 does(0,0,0)=-1 does(1,0,0)=-1 did(1,-1)=1 did(1,0)=9 did(1,1)=9");
    }

    private static void theHourAhead() {
        Run.holds("23: as if the HOUR ahead was as it is", "thing(-1)=0 town(2,2)=1 put(0,1,5)=0 told(1,2)=0 did(1,-1)=0 does(0,0,0)=-1 did(1,-1)=1 did(1,0)=9 did(1,1)=0");
        Run.holds("23: HOUR 0 has none ahead", "thing(-1)=0 town(2,2)=1 put(0,0,5)=0 told(1,2)=0 does(0,1,0)=-1 did(0,-1)=0 told(1,1)=2 did(0,-1)=1");
        Run.holds("23: whatever is done in the HOUR itself and in the next one", "thing(-1)=0 town(2,3)=1 put(0,2,5)=0 did(1,-1)=3 does(0,1,0)=-1 does(1,1,0)=-1 does(0,2,0)=-1 did(1,-1)=3 did(1,0)=0 did(1,1)=9");
        Run.holds("23: the last HOUR", "thing(-1)=0 town(5,5)=1 put(0,4,5)=0 does(0,3,0)=-1 told(4,2)=0 did(4,-1)=1 did(4,0)=9 did(4,4)=0 did(3,4)=-5");
    }

    private static void didRefused() {
        new Run("23: BAD: -10: no HOUR").go(Given.THREE).refused("did(4,0)=-10 did(-1,0)=-10 did(4,-1)=-10 did(-1,-1)=-10 did(" + Given.MIN + ",0)=-10 did(" + Given.MAX + ",0)=-10");
        new Run("23: BAD: -10: none of PEOPLE").go(Given.THREE).refused("did(0,3)=-10 did(0,-2)=-10 did(0," + Given.MIN + ")=-10 did(0," + Given.MAX + ")=-10");
        new Run("23: BAD is told, though there is none").go("told(0,1)=0 did(0,0)=-5").refused("did(0,3)=-10 did(4,0)=-10");
        new Run("23: nothing is done by it").go(Given.THREE + "does(0,0,2)=-1 told(0,1)=0 told(1,1)=0").leaves("did(0,-1)=9 did(0,0)=0 did(0,2)=1 all()=0");
    }

    private static void copied() {
        Run.holds("24: none: never", Given.THREE + "copied(0)=-1 does(0,0,0)=-1 does(0,1,0)=-1 does(1,0,2)=-1 copied(0)=-1 copied(1)=-1 copied(2)=-1 status(0)=0 status(1)=0");
        Run.holds("24: once", Given.THREE + "does(0,0,0)=-1 does(1,1,0)=-1 copied(1)=0 copied(0)=-1");
        Run.holds("24: most often", Given.THREE + "does(0,0,0)=-1 does(1,1,0)=-1 does(2,1,2)=-1 does(1,2,2)=-1 copied(1)=0 does(2,2,2)=-1 does(1,3,2)=-1 copied(1)=2");
        Run.holds("24: of like ones the least", Given.THREE + "does(2,0,0)=-1 does(1,1,0)=-1 copied(1)=2 does(0,0,0)=-1 copied(1)=0");
        Run.holds("24: not nothing", Given.THREE + "does(0,0,0)=-1 does(0,0,-1)=0 copied(1)=-1 does(1,1,-1)=-1 copied(1)=-1");
        Run.holds("24: he did it itself, not a SAME one", Given.THREE + "put(1,0,0)=4 does(0,0,0)=-1 does(1,1,1)=-1 copied(1)=-1 does(2,0,1)=-1 copied(1)=2");
        Run.holds("24: the other one, not he himself", Given.THREE + "does(1,0,0)=-1 does(1,1,0)=-1 does(1,2,0)=-1 copied(1)=-1 does(2,2,2)=-1 does(1,3,2)=-1 copied(1)=2");
    }

    private static void copiedBoundaries() {
        Run.holds("24: in the next HOUR, not in the same, nor one ahead", Given.THREE + "does(0,1,0)=-1 does(1,1,0)=-1 copied(1)=-1 does(1,0,0)=-1 copied(1)=-1 copied(0)=1");
        Run.holds("24: in the next HOUR, not in the one behind it", Given.THREE + "does(0,0,0)=-1 does(1,2,0)=-1 copied(1)=-1");
        Run.holds("24: the last HOUR has no next one", Given.THREE + "town(2,5)=1 does(0,4,0)=-1 does(1,0,0)=-1 copied(1)=-1 does(0,3,0)=-1 copied(1)=-1 does(1,4,0)=-1 copied(1)=0");
        Run.holds("24: one HOUR alone", Given.THREE + "town(2,1)=1 does(0,0,0)=-1 does(1,0,0)=-1 copied(0)=-1 copied(1)=-1");
        Run.holds("24: one alone", Given.THREE + "town(1,5)=1 does(0,0,0)=-1 does(0,1,0)=-1 copied(0)=-1");
        Run.holds("24: of 5 the last", Given.CHAIN + "town(5,5)=1 does(4,3,8)=-1 does(0,4,8)=-1 copied(0)=4 copied(4)=-1");
        new Run("24: BAD").go(Given.THREE).refused("copied(3)=-2 copied(-1)=-2 copied(" + Given.MIN + ")=-2 copied(" + Given.MAX + ")=-2");
    }

    private static void crowds() {
        Run.holds("25: n 1 .. 18: 1", "crowd(1,9,1)=1 part(0)=1 part(1)=9 crowd(1,9,0)=1 part(0)=1 part(1)=1");
        Run.holds("25: n 1 .. 18: 18", "crowd(18,2,18)=1 part(0)=1 part(1)=262144");
        Run.holds("25: m 1 .. 9: 1: it is sure", "crowd(18,1,18)=1 part(0)=1 part(1)=1 crowd(1,1,0)=1 part(0)=1 part(1)=1 crowd(1,1,1)=1 part(0)=1 part(1)=1");
        Run.holds("25: m 1 .. 9: 9, the greatest below", "crowd(18,9,18)=1 part(0)=1 part(1)=150094635296999121");
        Run.holds("25: the greatest above", "crowd(18,9,1)=1 part(0)=132080236787517137 part(1)=150094635296999121");
        Run.holds("25: k 0 .. n: 0: it is sure", "crowd(18,9,0)=1 part(0)=1 part(1)=1 crowd(1,2,0)=1 part(0)=1 part(1)=1");
        Run.holds("25: k at least: one less than all", "crowd(18,9,17)=1 part(0)=145 part(1)=150094635296999121 crowd(2,3,1)=1 part(0)=5 part(1)=9");
        Run.holds("25: k at least, not just k", "crowd(3,2,1)=1 part(0)=7 part(1)=8 crowd(3,2,2)=1 part(0)=1 part(1)=2 crowd(3,2,3)=1 part(0)=1 part(1)=8");
    }

    private static void lowestTerms() {
        Run.holds("25: lowest terms", "crowd(5,2,3)=1 part(0)=1 part(1)=2 crowd(2,6,1)=1 part(0)=11 part(1)=36 crowd(3,6,2)=1 part(0)=2 part(1)=27");
        Run.holds("25: THE FRACTION is the last one", "crowd(1,2,1)=1 crowd(1,3,1)=1 part(0)=1 part(1)=3 crowd(1,3,0)=1 part(0)=1 part(1)=1");
    }

    private static void crowdsRefused() {
        String half = "crowd(1,2,1)=1 ";
        new Run("25: BAD: n").go(half).refused("crowd(0,1,0)=-2 crowd(19,1,0)=-2 crowd(-1,1,0)=-2 crowd(" + Given.MIN + ",1,0)=-2 crowd(" + Given.MAX + ",1,0)=-2").go("part(0)=1 part(1)=2");
        new Run("25: BAD: m").go(half).refused("crowd(1,0,0)=-2 crowd(1,10,0)=-2 crowd(1,-1,0)=-2 crowd(1," + Given.MIN + ",0)=-2 crowd(1," + Given.MAX + ",0)=-2").go("part(0)=1 part(1)=2");
        new Run("25: BAD: k").go(half).refused("crowd(1,1,2)=-2 crowd(1,1,-1)=-2 crowd(18,9,19)=-2 crowd(1,1," + Given.MIN + ")=-2 crowd(1,1," + Given.MAX + ")=-2").go("part(0)=1 part(1)=2");
    }

    private static void parts() {
        Run.holds("26: THE FRACTION is 0 by 1 at first", "part(0)=0 part(1)=1");
        Run.holds("26: above (0), below (1)", "crowd(1,2,1)=1 part(0)=1 part(1)=2");
        new Run("26: BAD").go("crowd(1,2,1)=1").refused("part(2)=-2 part(-1)=-2 part(" + Given.MIN + ")=-2 part(" + Given.MAX + ")=-2");
    }
}
