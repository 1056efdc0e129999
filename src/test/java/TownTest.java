/** Promises 1 to 7 and 11 to 13: a town and what is paid in it. */
public final class TownTest {
    /** 0, 1 under 0, 2 under none, 3 under 1. */
    private static final String FOUR_THINGS = "thing(-1)=0 thing(0)=1 thing(-1)=2 thing(1)=3 ";

    public static void main(String[] args) {
        newObject();
        things();
        towns();
        puts();
        doing();
        undoing();
        needs();
        sameAtTheLine();
        kindsOfHours();
        copiedHours();
        all();
        Run.end();
    }

    private static void newObject() {
        new Run("1 new")
            .go("count(0)=0 count(1)=3 count(2)=4 count(3)=0 count(4)=0 part(0)=0 part(1)=1 all()=0")
            .go("status(0)=0 status(1)=0 status(2)=0 clear()=0 from(0)=-3 from(1)=-3")
            .go("put(1,0,4)=4 put(2,0,0)=0 put(0,0,0)=0 put(0,1,0)=0 put(0,2,0)=0 put(0,3,0)=0")
            .go("does(0,0,-1)=-1 does(2,3,-1)=-1 told(0,0)=0 told(2,0)=0");
    }

    private static void things() {
        new Run("2 thing")
            .go("thing(0)=-2 thing(-2)=-2 thing(-1)=0 thing(1)=-2 thing(0)=1 thing(-1)=2 thing(2)=3")
            .go("thing(3)=4 thing(4)=5 thing(5)=6 thing(6)=7 thing(7)=8 count(0)=9")
            .go("thing(-1)=-4 thing(8)=-4 thing(9)=-2 thing(-2147483648)=-2 thing(2147483647)=-2 count(0)=9")
            .go("status(0)=6 status(1)=0 status(2)=2");
    }

    private static void towns() {
        new Run("3 town").go(FOUR_THINGS)
            .go("put(1,0,2)=4 put(0,1,3)=0 put(2,0,2)=0 does(0,0,0)=-1 need(0,0,1)=0 told(0,5)=0")
            .go("town(2,3)=1 count(0)=4 count(1)=2 count(2)=3 count(3)=0 undo()=-3")
            .go("put(1,0,2)=2 put(0,1,0)=0 put(2,0,0)=0 does(0,0,-1)=-1 need(0,0,0)=0 told(0,0)=0")
            .go("town(0,3)=-2 town(6,3)=-2 town(3,0)=-2 town(3,6)=-2 town(-1,-1)=-2 count(1)=2 count(2)=3 count(3)=1 status(0)=5")
            .go("town(1,1)=1 does(0,0,0)=-1 does(1,0,0)=-10 does(0,1,0)=-10")
            .go("town(5,5)=1 does(4,4,3)=-1 does(5,4,3)=-10 does(4,5,3)=-10");
    }

    private static void puts() {
        new Run("4 put")
            .go("put(0,0,5)=0 put(0,0,1)=5 put(0,3,2)=0 put(0,4,0)=-2 put(0,-1,0)=-2 put(0,0,6)=-2 put(0,0,-1)=-2 put(0,0,0)=1")
            .go("put(1,0,0)=4 put(1,0,3)=0 put(1,1,0)=-2 put(1,-1,0)=-2 put(1,0,5)=-2 put(1,0,-1)=-2 put(1,0,4)=3")
            .go("put(2,0,2)=0 put(2,0,1)=2 put(2,1,0)=-2 put(2,0,3)=-2 put(2,0,-1)=-2 put(2,0,0)=1")
            .go("put(3,0,0)=-2 put(-1,0,0)=-2 status(0)=13");
    }

    private static void doing() {
        new Run("5 does").go(FOUR_THINGS)
            .go("does(0,0,3)=-1 does(0,0,-1)=3 does(0,0,2)=-1 does(0,0,2)=2 count(3)=4")
            .go("does(-1,0,0)=-10 does(3,0,0)=-10 does(0,-1,0)=-10 does(0,4,0)=-10 does(0,0,4)=-10 does(0,0,-2)=-10")
            .go("status(0)=6 does(0,0,0)=2 count(3)=5");
    }

    private static void undoing() {
        new Run("6 undo").go(FOUR_THINGS)
            .go("undo()=-3 does(0,0,1)=-1 does(0,0,2)=1 does(0,0,2)=2 does(1,1,0)=-1 undo()=1 does(1,1,-1)=-1 undo()=1")
            .go("undo()=1 does(0,0,2)=2 undo()=1 undo()=1 does(0,0,1)=1 undo()=1 undo()=1 undo()=-3 does(0,0,-1)=-1 status(1)=2");
        new Run("6 undo, ten at most").go(FOUR_THINGS)
            .go("does(0,0,0)=-1 does(0,1,0)=-1").times(9, "does(1,0,1)=-1 undo()=1")
            .go("count(3)=2 does(1,0,1)=-1 does(1,1,1)=-1 does(1,2,1)=-1 does(1,3,1)=-1 does(2,0,1)=-1 does(2,1,1)=-1")
            .go("does(2,2,1)=-1 does(2,3,1)=-1 count(3)=10 does(0,2,2)=-1 count(3)=10").times(10, "undo()=1")
            .go("undo()=-3 count(3)=0 does(0,0,3)=0 does(0,1,3)=-1 does(0,2,3)=-1 does(2,3,3)=-1");
        new Run("6 undo, what was done ahead of each").go(FOUR_THINGS)
            .go("does(0,0,0)=-1 does(0,0,1)=0 does(0,0,2)=1 does(0,0,3)=2 does(1,1,0)=-1 does(1,1,1)=0 does(1,1,2)=1")
            .go("does(0,0,0)=3 does(0,0,1)=0 does(0,0,2)=1 does(2,2,0)=-1 does(2,2,1)=0 count(3)=10")
            .go("undo()=1 does(2,2,0)=0 undo()=1 undo()=1 does(2,2,-1)=-1 undo()=1 undo()=1 undo()=1 undo()=1 does(0,0,3)=3 undo()=1")
            .go("undo()=1 does(1,1,1)=1 undo()=1 undo()=1 undo()=1 does(1,1,-1)=-1 undo()=1 undo()=1 undo()=1 undo()=-3 does(0,0,1)=1");
    }

    private static void needs() {
        new Run("7 need").go(FOUR_THINGS)
            .go("need(0,0,4)=0 need(0,0,5)=-2 need(0,1,1)=-2 need(0,0,3)=4 need(0,1,1)=0 need(0,1,2)=-2 need(0,2,0)=0")
            .go("need(0,0,0)=3 need(0,3,3)=0 need(0,1,1)=1 need(1,0,4)=0 need(-1,0,0)=-2 need(3,0,0)=-2 need(0,-1,0)=-2")
            .go("need(0,4,0)=-2 need(0,0,-1)=-2 need(0,0,6)=-2 need(0,0,2147483647)=-2 status(0)=10")
            .go("town(1,5)=1 need(0,0,5)=0 need(0,0,6)=-2 need(0,1,1)=-2 need(0,0,5)=5");
    }

    private static void sameAtTheLine() {
        new Run("11 at").go("at(0)=-2").go(FOUR_THINGS)
            .go("at(0)=0 at(1)=1 at(2)=2 at(3)=3 put(1,0,2)=4 at(3)=3 put(1,0,1)=2 at(0)=0 at(1)=1 at(2)=2 at(3)=1")
            .go("put(1,0,0)=1 at(0)=0 at(1)=0 at(2)=2 at(3)=0 at(4)=-2 at(-1)=-2 status(0)=3");
        new Run("11 at, deeper than the last line")
            .go("thing(-1)=0 thing(0)=1 thing(1)=2 thing(2)=3 thing(3)=4 thing(4)=5 thing(5)=6")
            .go("at(3)=3 at(4)=4 at(5)=4 at(6)=4 put(1,0,3)=4 at(3)=3 at(4)=3 at(6)=3");
    }

    private static void kindsOfHours() {
        Run run = new Run("12 pays").go(FOUR_THINGS).go("town(5,1)=1 put(1,0,0)=4 put(2,0,3)=0")
            .go("does(0,0,0)=-1 does(1,0,1)=-1 does(2,0,2)=-1 does(3,0,0)=-1 does(4,0,3)=-1");
        run.go("pays(0,0)=3 pays(1,0)=3 pays(2,0)=0 pays(3,0)=3 pays(4,0)=3 all()=12");
        run.go("put(0,0,1)=0 pays(0,0)=6 pays(1,0)=6 pays(2,0)=0 pays(3,0)=6 pays(4,0)=6 all()=24");
        run.go("put(0,0,2)=1 pays(0,0)=0 pays(1,0)=0 pays(2,0)=0 pays(3,0)=12 pays(4,0)=0 all()=12");
        run.go("put(2,0,2)=3 pays(0,0)=3 pays(1,0)=3 pays(2,0)=0 pays(3,0)=3 pays(4,0)=3 all()=12");
        run.go("put(0,0,3)=2 pays(0,0)=0 pays(1,0)=1 pays(2,0)=0 pays(3,0)=2 pays(4,0)=3 all()=6");
        run.go("put(0,0,4)=3 pays(0,0)=0 pays(1,0)=2 pays(2,0)=0 pays(3,0)=0 pays(4,0)=2 all()=4");
        run.go("put(0,0,5)=4 pays(0,0)=0 pays(1,0)=1 pays(2,0)=0 pays(3,0)=2 pays(4,0)=3 all()=6");
        run.go("put(0,0,0)=5 put(1,0,1)=0 pays(0,0)=1 pays(1,0)=1 pays(2,0)=0 pays(3,0)=1 pays(4,0)=1 all()=4");
        run.go("put(1,0,4)=1 pays(0,0)=1 pays(1,0)=0 pays(3,0)=1 pays(4,0)=0 does(3,0,-1)=0 pays(0,0)=0 pays(3,0)=0 all()=0");
        run.go("does(0,0,-1)=0 does(1,0,-1)=1 all()=0 pays(5,0)=-2 pays(-1,0)=-2 pays(0,1)=-2 pays(0,-1)=-2 status(0)=4");
    }

    private static void copiedHours() {
        new Run("12 pays, COPIED").go(FOUR_THINGS).go("town(3,3)=1 put(0,1,5)=0 put(0,2,5)=0 put(1,0,0)=4")
            .go("does(0,0,0)=-1 does(0,1,0)=-1 pays(0,0)=0 pays(0,1)=0 does(1,1,1)=-1 pays(1,1)=3 pays(0,1)=0")
            .go("does(2,0,3)=-1 pays(0,1)=2 pays(1,1)=3 does(2,1,2)=-1 pays(2,1)=0 does(0,2,2)=-1 pays(0,2)=2")
            .go("put(1,0,4)=0 pays(0,1)=0 pays(1,1)=0 pays(0,2)=2 does(1,2,0)=-1 pays(1,2)=2");
        new Run("12 pays, COPIED in the last of five hours").go(FOUR_THINGS).go("town(5,5)=1 put(0,4,5)=0")
            .go("does(4,3,3)=-1 does(3,4,3)=-1 does(4,4,3)=-1 pays(3,4)=2 pays(4,4)=1 all()=3");
        new Run("12 pays, COPIED behind IDLE").go(FOUR_THINGS).go("town(2,2)=1 put(0,0,4)=0 put(0,1,5)=0")
            .go("does(0,0,0)=-1 does(1,1,0)=-1 pays(0,0)=0 pays(1,1)=2 all()=2");
    }

    private static void all() {
        new Run("13 all").go("all()=0").go(FOUR_THINGS)
            .go("does(0,0,0)=-1 does(1,0,0)=-1 all()=2 does(0,3,2)=-1 does(1,3,2)=-1 does(2,3,2)=-1 all()=8")
            .go("put(0,3,1)=0 all()=14 put(0,0,3)=0 all()=13 undo()=1 all()=5");
    }
}
