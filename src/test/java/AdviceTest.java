/** Promises 18 to 21: what to do, what to call it. */
public final class AdviceTest {
    public static void main(String[] args) {
        better();
        names();
        lines();
        choirs();
        Run.end();
    }

    private static void better() {
        new Run("18 better").go("better(0,0)=-1 better(3,0)=-2 better(0,4)=-2 better(-1,0)=-2 better(0,-1)=-2 status(0)=4")
            .go("thing(-1)=0 better(0,0)=0 thing(-1)=1 thing(1)=2 does(0,0,0)=-1 does(1,0,1)=-1")
            .go("better(0,0)=0 better(1,0)=1 better(2,0)=2 put(1,0,0)=4 better(2,0)=0 does(1,0,0)=1 better(2,0)=1 better(0,0)=1")
            .go("better(2,1)=0 pays(2,0)=0 all()=2");
        new Run("18 better, by kinds").go("thing(-1)=0 thing(-1)=1 does(2,0,0)=-1 does(0,0,1)=-1")
            .go("put(0,0,2)=0 better(1,0)=1 better(0,0)=1 put(2,0,2)=0 better(1,0)=0 put(0,0,4)=2 better(1,0)=0")
            .go("put(0,0,3)=4 better(1,0)=0 better(2,0)=0 better(0,0)=0 put(0,1,5)=0 does(1,0,0)=-1 better(1,1)=0")
            .go("does(0,0,-1)=1 better(1,1)=1 better(0,1)=1");
    }

    private static void names() {
        new Run("19 name").go("name(0)=-1000 thing(-1)=0 thing(0)=1 thing(1)=2 put(1,0,0)=4")
            .go("does(0,0,0)=-1 does(1,0,1)=-1 does(2,0,2)=-1 all()=6 name(0)=0 name(1)=4 name(2)=4 all()=6")
            .go("put(1,0,1)=0 all()=2 name(0)=0 name(1)=2 name(2)=2 at(2)=1 name(3)=-1000 name(-1)=-1000 status(0)=3")
            .go("put(0,0,1)=0 name(1)=4 put(1,0,4)=1 name(1)=0");
    }

    private static void lines() {
        new Run("20 line").go("line(0)=0 line(3)=-2 line(-1)=-2 status(0)=2")
            .go("thing(-1)=0 thing(0)=1 thing(1)=2 thing(2)=3 thing(3)=4 thing(4)=5")
            .go("does(0,0,0)=-1 does(1,0,1)=-1 line(0)=1 line(1)=1 line(2)=0")
            .go("does(0,1,3)=-1 does(2,1,4)=-1 line(0)=4 line(1)=1 line(2)=4 put(1,0,2)=4")
            .go("does(0,2,4)=-1 does(2,2,5)=-1 line(0)=4 line(2)=4 put(1,0,2)=2");
        // at line 0 RICH is of the group and pays for it: so 1 likes the lowest line best
        new Run("20 line, the least is not the finest").go("thing(-1)=0 thing(0)=1 put(0,0,2)=0")
            .go("does(0,0,0)=-1 does(1,0,1)=-1 does(2,0,1)=-1 line(0)=1 line(1)=0 line(2)=0 pays(1,0)=1");
    }

    private static void choirs() {
        new Run("21 choir").go("choir(0,1)=-2 thing(-1)=0 thing(-1)=1 town(4,3)=1 choir(0,1)=0 choir(0,3)=6 choir(1,4)=12")
            .go("put(0,0,1)=0 put(0,1,1)=0 put(0,2,1)=0 choir(0,3)=12 put(0,1,2)=1 choir(0,3)=6 put(0,1,1)=2")
            .go("put(0,1,3)=1 choir(0,3)=3 choir(0,4)=6 put(0,1,4)=3 choir(0,4)=0 choir(1,4)=24 put(0,1,5)=4 choir(1,4)=6")
            .go("does(0,0,0)=-1 does(3,0,0)=-1 choir(0,2)=1 all()=4 put(0,1,1)=5 choir(0,2)=4 put(0,0,3)=1 choir(0,2)=1")
            .go("choir(0,0)=-2 choir(0,5)=-2 choir(2,1)=-2 choir(-1,1)=-2 status(0)=5");
    }
}
