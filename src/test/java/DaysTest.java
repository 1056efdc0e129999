/** Promises 14 to 17: days by needs. */
public final class DaysTest {
    public static void main(String[] args) {
        leastDay();
        tooManyWays();
        leastIsNotMovedByOtherCalls();
        fewestHours();
        lists();
        rests();
        Run.end();
    }

    private static void leastDay() {
        new Run("14 least").go("thing(-1)=0 thing(-1)=1 town(2,2)=1 need(0,0,1)=0 need(1,0,1)=0")
            .go("least(-1,0)=0 least(0,0)=0 least(0,1)=9 least(1,0)=9 least(1,1)=0")
            .go("does(0,0,1)=-1 does(1,0,1)=-1 least(-1,0)=0 least(0,0)=0")
            .go("need(0,1,1)=0 least(-1,0)=0 least(0,0)=0 least(0,1)=1 least(1,1)=0")
            .go("need(1,1,1)=0 least(-1,0)=0 least(0,0)=0 least(0,1)=1 least(1,0)=1 least(1,1)=0")
            .go("put(1,0,0)=4 thing(0)=2 need(0,0,2)=-2 need(1,0,0)=1 need(1,2,1)=0 least(-1,0)=0")
            .go("least(-1,1)=-2 least(-1,-1)=-2 least(-2,0)=-2 least(2,0)=-2 least(0,2)=-2 least(0,-1)=-2 status(0)=7");
        new Run("14 least, the first of like ones").go("thing(-1)=0 town(2,1)=1 need(0,0,1)=0 need(1,0,1)=0 least(-1,0)=2")
            .go("least(0,0)=0 least(1,0)=0 put(0,0,1)=0 least(-1,0)=4 put(0,0,4)=1 least(-1,0)=0 put(0,0,3)=4 least(-1,0)=1")
            .go("put(0,0,2)=3 least(-1,0)=2 town(2,3)=1 need(0,0,2)=0 need(1,0,2)=0 least(-1,0)=2")
            .go("least(0,0)=0 least(0,1)=0 least(0,2)=9 least(1,0)=0 least(1,1)=9 least(1,2)=0");
        new Run("14 least, COPIED").go("thing(-1)=0 town(2,2)=1 put(0,1,5)=0 need(0,0,1)=0 need(1,0,1)=0")
            .go("least(-1,0)=1 least(0,0)=9 least(0,1)=0 least(1,0)=9 least(1,1)=0");
    }

    private static void tooManyWays() {
        Run run = new Run("14 least, 50000 ways").go("thing(-1)=0 thing(-1)=1 thing(-1)=2 town(5,5)=1")
            .go("need(0,0,1)=0 need(0,1,1)=0 need(1,0,1)=0 need(1,1,1)=0 need(2,2,1)=0 need(3,2,1)=0 need(4,2,1)=0");
        run.go("least(-1,0)=0 least(0,0)=0 least(0,1)=1 least(1,0)=1 least(1,1)=0 least(2,0)=2 least(3,1)=2 least(4,2)=2 status(1)=0");
        run.go("need(4,2,2)=1 least(-1,0)=-3 least(0,0)=-3 least(5,0)=-2 status(1)=2 status(0)=1");
        run.go("need(4,2,1)=2 least(0,0)=0 status(1)=2");
    }

    private static void leastIsNotMovedByOtherCalls() {
        new Run("14 least, among other calls").go("thing(-1)=0 thing(-1)=1 town(2,3)=1 put(0,0,1)=0 put(0,1,1)=0 need(0,0,2)=0 need(1,0,2)=0")
            .go("least(-1,0)=2 least(0,0)=0 least(0,1)=9 least(0,2)=0 least(1,0)=9 least(1,1)=0 least(1,2)=0")
            .go("fewest()=4 list(1)=4 rests(0)=0 did(0,-1)=7")
            .go("least(-1,0)=2 least(0,0)=0 least(0,1)=9 least(0,2)=0 least(1,0)=9 least(1,1)=0 least(1,2)=0 all()=0")
            .go("image(0)=1 need(1,0,1)=2 least(-1,0)=0 from(0)=1 least(-1,0)=2 town(2,2)=1 least(-1,0)=0 least(0,0)=9");
    }

    private static void fewestHours() {
        new Run("15 fewest").go("fewest()=1 thing(-1)=0 thing(-1)=1 town(2,1)=1 fewest()=1 need(0,0,1)=0 fewest()=1 need(1,0,1)=0 fewest()=2")
            .go("put(0,0,4)=0 fewest()=1 put(0,0,1)=4 fewest()=2 need(1,0,0)=1 need(1,1,1)=0 fewest()=1")
            .go("town(1,4)=1 need(0,0,3)=0 fewest()=3 need(0,1,1)=0 fewest()=4");
        new Run("15 fewest, none").go("thing(-1)=0 town(2,5)=1 need(0,0,3)=0 need(1,0,2)=0 fewest()=5 need(1,0,3)=2 fewest()=-1")
            .go("status(1)=0 put(0,4,4)=0 fewest()=5 put(0,3,4)=0 fewest()=5 put(0,2,4)=0 fewest()=4");
        new Run("15 fewest, hours beyond are as at first").go("thing(-1)=0 town(2,1)=1 put(0,0,4)=0 need(0,0,1)=0 fewest()=1")
            .go("thing(-1)=1 town(3,2)=1 put(0,0,5)=0 put(0,1,5)=0 need(0,1,1)=0 need(1,1,1)=0 need(2,1,1)=0 fewest()=4");
        new Run("15 fewest, 50000 ways").go("thing(-1)=0 thing(0)=1 thing(0)=2 put(1,0,0)=4 town(5,5)=1")
            .go("need(0,0,1)=0 need(0,1,1)=0 need(1,0,1)=0 need(1,1,1)=0 need(2,2,1)=0 need(3,2,1)=0 need(4,2,1)=0")
            .go("fewest()=-1 least(-1,0)=4 status(1)=0 need(4,2,2)=1 fewest()=-3 status(1)=1");
        new Run("15 fewest, too many ways").go("thing(-1)=0 thing(-1)=1 thing(-1)=2 town(5,5)=1")
            .go("need(0,0,1)=0 need(0,1,1)=0 need(1,0,1)=0 need(1,1,1)=0 need(2,0,1)=0 need(3,2,1)=0 need(4,2,1)=0 fewest()=3")
            .go("need(2,0,0)=1 need(2,2,5)=0 fewest()=-1 need(3,2,2)=1 need(4,2,2)=1 fewest()=-1 need(3,0,1)=0 fewest()=-3 status(1)=1");
    }

    private static void lists() {
        new Run("16 list").go("list(0)=0 list(1)=0 list(2)=-2 list(-1)=-2 status(0)=2 thing(-1)=0 town(2,2)=1 put(0,0,1)=0")
            .go("need(0,0,2)=0 need(1,0,1)=0 list(0)=2 list(1)=4 need(0,0,1)=2 need(1,0,2)=1 list(0)=4 list(1)=4")
            .go("need(1,0,1)=2 list(0)=0 list(1)=0 does(0,1,0)=-1 does(1,1,0)=-1 list(0)=0 all()=2");
        // each only looks at what he pays himself: 1 goes where RICH pays for him
        new Run("16 list, each for himself").go("thing(-1)=0 town(3,2)=1 put(0,0,2)=0 need(0,0,1)=0 need(1,0,1)=0 need(2,0,1)=0 list(0)=6")
            .go("put(2,0,2)=0 list(0)=2 list(1)=6");
    }

    private static void rests() {
        new Run("17 rests").go("rests(0)=0 rests(1)=0 rests(2)=-10 rests(-1)=-10 status(0)=2 thing(-1)=0 thing(-1)=1")
            .go("does(0,0,1)=-1 does(1,0,1)=-1 all()=2 rests(0)=1 rests(1)=0 all()=2 does(0,0,1)=1")
            .go("need(0,0,4)=0 need(1,0,4)=0 rests(0)=1 rests(1)=0")
            .go("does(2,0,0)=-1 does(0,0,0)=1 does(1,0,0)=1 rests(0)=1 rests(1)=2 all()=6");
        // RICH pays for all who are with him: he flees from 1, whom he rids of a fine
        new Run("17 rests, never").go("thing(-1)=0 town(3,2)=1 put(0,0,2)=0 put(0,1,2)=0 need(0,0,1)=0 need(1,0,1)=0 need(2,0,2)=0")
            .go("rests(0)=0 rests(1)=0 does(2,0,0)=-1 does(2,1,0)=-1 does(0,0,0)=-1 does(1,0,0)=-1")
            .go("rests(0)=-1 rests(1)=-5 status(0)=0 status(1)=0 all()=6 put(0,0,0)=2 rests(0)=1");
    }
}
