/** The largest town: 9 things, 5 people, 5 hours, and every call on its last places. */
public final class FullTownTest {
    public static void main(String[] args) {
        Run run = new Run("full town").go("town(5,5)=1 thing(-1)=0").go("thing(-1)=1 thing(-1)=2 thing(-1)=3 thing(-1)=4")
            .go("thing(4)=5 thing(5)=6 thing(6)=7 thing(7)=8 thing(8)=-4");
        for (int p = 0; p < 5; p++) run.go("does(" + p + ",4,8)=-1 does(" + p + ",3," + p + ")=-1");
        run.go("all()=20 pays(4,4)=4 at(8)=8 name(8)=0 line(4)=0 copied(4)=-1 copied(0)=-1 better(4,4)=0 choir(8,5)=20");
        run.go("least(-1,0)=0 least(4,4)=9 fewest()=1 list(1)=0 rests(0)=1 rests(1)=0 did(4,-1)=36046 did(4,4)=4 undo()=1");
        for (int p = 0; p < 5; p++) run.go("need(" + p + ",8,5)=0");
        run.go("least(-1,0)=100 least(4,4)=8 fewest()=-1 list(0)=100 list(1)=100 rests(0)=0");
        run.go("put(0,4,5)=0 put(2,0,4)=0 put(1,0,3)=4 all()=10 least(-1,0)=100 name(8)=0 does(4,3,8)=-1 all()=18");
        for (int p = 0; p < 5; p++) run.go("told(" + p + ",40)=0 did(4," + p + ")=-5");
        for (int t = 0; t < 5; t++) run.go("need(4,8," + (4 - t) + ")=" + (5 - t) + " need(4," + t + ",1)=0");
        run.go("least(-1,0)=62 list(0)=62 list(1)=62 fewest()=-1 status(0)=0 status(1)=0 status(2)=1");
        Run.end();
    }
}
