/** The edges of promises 1 to 7 and 11 to 13: each sentence of the document that names one has a run of its own. */
public final class TownEdgesTest {
    /** Of everything that town() takes away, something. */
    private static final String BUSY = Given.THREE + "put(0,0,1)=0 put(0,3,5)=0 put(1,0,1)=4 put(2,0,2)=0 does(0,0,1)=-1 does(2,3,2)=-1 "
        + "need(0,0,4)=0 need(2,2,1)=0 told(0,40)=0 told(2,1)=0 ";

    public static void main(String[] args) {
        newObject();
        things();
        towns();
        whatTownsTakeAndLeave();
        kinds();
        linesAndTheRich();
        doing();
        undoing();
        whatIsNotUndone();
        needs();
        sameAtTheLine();
        groups();
        rich();
        listed();
        idle();
        copied();
        all();
        Run.end();
    }

    private static void newObject() {
        Run.holds("1: no THINGS", "count(0)=0 at(0)=-2 better(0,0)=-1 name(0)=-1000");
        Run.holds("1: THE LINE: 4 at first", "put(1,0,4)=4");
        Run.holds("1: PEOPLE: 3 at first", "count(1)=3 pays(2,0)=0 pays(3,0)=-2");
        Run.holds("1: HOURS: 4 at first", "count(2)=4 pays(0,3)=0 pays(0,4)=-2");
        Run none = new Run("1: each does nothing at first");
        for (int p = 0; p < 3; p++) {
            for (int h = 0; h < 4; h++) none.go("does(" + p + "," + h + ",-1)=-1");
        }
        Run.holds("1: RICH: 0 at first", "put(2,0,0)=0");
        Run.holds("1: KINDS: 0 at first", "put(0,0,0)=0 put(0,1,0)=0 put(0,2,0)=0 put(0,3,0)=0");
        Run.holds("1: NEEDS: 0 at first", "thing(-1)=0 need(0,0,0)=0 need(1,0,0)=0 need(2,0,0)=0");
        Run.holds("1: told(): 0 at first", "told(0,0)=0 told(1,0)=0 told(2,0)=0");
        Run.holds("1: THE FRACTION is 0 by 1 at first", "part(0)=0 part(1)=1");
        Run.holds("1: nothing was refused at first", "status(0)=0 status(1)=0 status(2)=0");
        Run.holds("1: THE TEXT is empty at first", "count(4)=0 clear()=0 read()=0");
        Run.holds("1: nothing may be undone at first", "count(3)=0 undo()=-3");
        Run.holds("1: no IMAGE is kept at first", "from(0)=-3 from(1)=-3");
        Run.holds("1: one object knows nothing of another", BUSY);
        Run.holds("1: one object knows nothing of another, either", "count(0)=0 count(3)=0 put(1,0,4)=4 told(0,0)=0");
    }

    private static void things() {
        Run.holds("2: THINGS 0 .. 8, as they come: its number", Given.CHAIN + "count(0)=9");
        Run.holds("2: NONE: under none", "thing(-1)=0 thing(-1)=1 put(1,0,0)=4 at(0)=0 at(1)=1");
        Run.holds("2: under another one that is ahead of it: the first, the last", "thing(-1)=0 thing(-1)=1 thing(0)=2 thing(2)=3 put(1,0,0)=4 at(2)=0 at(3)=0");
        new Run("2: BAD: under itself, under one that is not there yet").refused("thing(0)=-2 thing(1)=-2 thing(8)=-2").go("thing(-1)=0")
            .refused("thing(1)=-2 thing(2)=-2");
        new Run("2: BAD: no number of a THING").go(Given.THREE).refused("thing(-2)=-2 thing(3)=-2 thing(" + Given.MIN + ")=-2 thing(" + Given.MAX + ")=-2");
        new Run("2: FULL: 9").go(Given.CHAIN).refused("thing(-1)=-4 thing(0)=-4 thing(8)=-4").go("count(0)=9");
        new Run("2: BAD is ahead of FULL").go(Given.CHAIN).refused("thing(9)=-2 thing(-2)=-2");
        Run.holds("2: a 9th is not FULL", "thing(-1)=0 thing(-1)=1 thing(-1)=2 thing(-1)=3 thing(-1)=4 thing(-1)=5 thing(-1)=6 thing(-1)=7 thing(-1)=8 status(2)=0");
    }

    private static void towns() {
        Run.holds("3: n 1 .. 5: 1", "town(1,4)=1 count(1)=1 pays(0,0)=0 pays(1,0)=-2");
        Run.holds("3: n 1 .. 5: 5", "town(5,4)=1 count(1)=5 pays(4,0)=0 pays(5,0)=-2");
        Run.holds("3: H 1 .. 5: 1", "town(3,1)=1 count(2)=1 pays(0,0)=0 pays(0,1)=-2");
        Run.holds("3: H 1 .. 5: 5", "town(3,5)=1 count(2)=5 pays(0,4)=0 pays(0,5)=-2");
        new Run("3: BAD: n").go(BUSY).refused("town(0,4)=-2 town(6,4)=-2 town(-1,4)=-2 town(" + Given.MIN + ",4)=-2 town(" + Given.MAX + ",4)=-2");
        new Run("3: BAD: H").go(BUSY).refused("town(3,0)=-2 town(3,6)=-2 town(3,-1)=-2 town(3," + Given.MIN + ")=-2 town(3," + Given.MAX + ")=-2");
    }

    private static void whatTownsTakeAndLeave() {
        Run.holds("3: nothing is done", BUSY + "town(3,4)=1 does(0,0,-1)=-1 does(2,3,-1)=-1");
        Run.holds("3: nothing is needed", BUSY + "town(3,4)=1 need(0,0,0)=0 need(2,2,0)=0 need(0,1,4)=0");
        Run.holds("3: nothing is undone", BUSY + "count(3)=2 town(3,4)=1 count(3)=0 undo()=-3");
        Run.holds("3: HOURS of KIND 0", BUSY + "town(3,4)=1 put(0,0,0)=0 put(0,3,0)=0");
        Run.holds("3: RICH 0", BUSY + "town(3,4)=1 put(2,0,0)=0");
        Run.holds("3: told() all 0", BUSY + "town(3,4)=1 told(0,0)=0 told(2,0)=0");
        Run.holds("3: THINGS and THE LINE stay", BUSY + "town(3,4)=1 count(0)=3 at(1)=1 put(1,0,0)=1 at(1)=0 at(2)=2");
        Run.holds("3: THE TEXT, THE FRACTION, IMAGES, STATUS stay", BUSY + "crowd(1,2,1)=1 type(59,1)=1 image(1)=1 undo()=1 undo()=1 undo()=-3 "
            + "town(1,1)=1 part(1)=2 count(4)=1 status(1)=1 from(1)=1 count(3)=2 need(0,0,4)=4");
        Run.holds("3: nothing is done by those who come back", Given.THREE + "town(5,5)=1 put(0,4,5)=0 does(4,4,1)=-1 need(4,1,5)=0 told(4,9)=0 "
            + "town(1,1)=1 town(5,5)=1 does(4,4,-1)=-1 need(4,1,0)=0 told(4,0)=0 put(0,4,0)=0");
    }

    private static void kinds() {
        Run.holds("4: KIND of an HOUR: what it was", "put(0,0,5)=0 put(0,0,4)=5 put(0,0,4)=4 put(0,0,0)=4 put(0,1,0)=0");
        Run.holds("4: KINDS 0 .. 5", "put(0,3,0)=0 put(0,3,1)=0 put(0,3,2)=1 put(0,3,3)=2 put(0,3,4)=3 put(0,3,5)=4 put(0,3,0)=5");
        new Run("4: BAD: no KIND").refused("put(0,0,6)=-2 put(0,0,-1)=-2 put(0,0," + Given.MIN + ")=-2 put(0,0," + Given.MAX + ")=-2");
        new Run("4: BAD: no HOUR").refused("put(0,4,0)=-2 put(0,-1,0)=-2 put(0," + Given.MIN + ",0)=-2 put(0," + Given.MAX + ",0)=-2").go("town(3,1)=1").refused("put(0,1,0)=-2");
        Run.holds("4: the last of 5 HOURS", "town(1,5)=1 put(0,4,3)=0 put(0,4,0)=3 put(0,5,0)=-2");
        new Run("4: BAD: another what").refused("put(3,0,0)=-2 put(-1,0,0)=-2 put(" + Given.MIN + ",0,0)=-2 put(" + Given.MAX + ",0,0)=-2");
    }

    private static void linesAndTheRich() {
        Run.holds("4: THE LINE 0 .. 4: what it was", "put(1,0,0)=4 put(1,0,1)=0 put(1,0,4)=1 put(1,0,4)=4");
        new Run("4: BAD: no line").refused("put(1,0,5)=-2 put(1,0,-1)=-2 put(1,0," + Given.MIN + ")=-2 put(1,0," + Given.MAX + ")=-2");
        new Run("4: i is 0 but for an HOUR: THE LINE").refused("put(1,1,0)=-2 put(1,-1,0)=-2 put(1," + Given.MIN + ",0)=-2 put(1," + Given.MAX + ",0)=-2");
        Run.holds("4: RICH is one of PEOPLE: what it was", "put(2,0,2)=0 put(2,0,1)=2 put(2,0,1)=1 town(5,1)=1 put(2,0,4)=0 put(2,0,0)=4");
        new Run("4: BAD: RICH is none of PEOPLE").refused("put(2,0,3)=-2 put(2,0,-1)=-2 put(2,0," + Given.MIN + ")=-2 put(2,0," + Given.MAX + ")=-2")
            .go("town(1,1)=1 put(2,0,0)=0").refused("put(2,0,1)=-2");
        new Run("4: i is 0 but for an HOUR: RICH").refused("put(2,1,0)=-2 put(2,-1,0)=-2 put(2," + Given.MIN + ",0)=-2 put(2," + Given.MAX + ",0)=-2");
    }

    private static void doing() {
        Run.holds("5: what it was", Given.THREE + "does(1,2,2)=-1 does(1,2,0)=2 does(1,2,0)=0 does(1,2,1)=0 does(1,1,0)=-1 does(0,2,0)=-1");
        Run.holds("5: NONE: nothing", Given.THREE + "does(0,0,2)=-1 does(0,0,-1)=2 does(0,0,-1)=-1");
        Run.holds("5: NONE, where there are no THINGS", "does(0,0,-1)=-1 count(3)=1");
        Run.holds("5: the last one, the last HOUR, the last THING", Given.CHAIN + "town(5,5)=1 does(4,4,8)=-1 does(4,4,-1)=8");
        new Run("5: BAD: -10: no one of PEOPLE").go(BUSY).refused("does(3,0,0)=-10 does(-1,0,0)=-10 does(" + Given.MIN + ",0,0)=-10 does(" + Given.MAX + ",0,0)=-10 does(3,0,-1)=-10");
        new Run("5: BAD: -10: no HOUR").go(BUSY).refused("does(0,4,0)=-10 does(0,-1,0)=-10 does(0," + Given.MIN + ",0)=-10 does(0," + Given.MAX + ",0)=-10 does(0,4,-1)=-10");
        new Run("5: BAD: -10: no THING").go(BUSY).refused("does(0,0,3)=-10 does(0,0,-2)=-10 does(0,0,9)=-10 does(0,0," + Given.MIN + ")=-10 does(0,0," + Given.MAX + ")=-10");
        new Run("5: BAD: -10: no THINGS yet").refused("does(0,0,0)=-10");
    }

    private static void undoing() {
        Run.holds("6: what one did as ahead of the last does()", Given.THREE + "does(0,0,1)=-1 does(0,0,2)=1 undo()=1 does(0,0,2)=1 undo()=1 undo()=1 does(0,0,0)=-1");
        Run.holds("6: the last does() is undone first", Given.THREE + "does(0,0,1)=-1 does(1,1,2)=-1 undo()=1 does(1,1,0)=-1 undo()=1 undo()=1 does(0,0,0)=-1");
        Run.holds("6: nothing, too, is undone", Given.THREE + "does(0,0,1)=-1 does(0,0,-1)=1 undo()=1 does(0,0,0)=1");
        Run.holds("6: a does() that changed nothing may be undone", Given.THREE + "does(0,0,1)=-1 does(0,0,1)=1 count(3)=2 undo()=1 does(0,0,2)=1");
        new Run("6: NO: none may be").refused("undo()=-3 undo()=-3").go(Given.THREE + "does(0,0,1)=-1 undo()=1").refused("undo()=-3");
        Run ten = Run.holds("6: 10 at most: 10 may be", Given.THREE + "does(0,0,0)=-1").times(9, "does(1,0,-1)=-1").go("count(3)=10").times(10, "undo()=1");
        ten.refused("undo()=-3").go("does(0,0,1)=-1");
        Run eleven = Run.holds("6: 10 at most: of 11 the first stays", Given.THREE + "does(0,0,0)=-1").times(10, "does(1,0,-1)=-1").go("count(3)=10").times(10, "undo()=1");
        eleven.refused("undo()=-3").go("does(0,0,1)=0");
        Run many = Run.holds("6: 10 at most: however many were ahead", Given.THREE).times(100, "does(0,0,0)=-1 does(0,0,-1)=0");
        many.go("does(1,1,1)=-1 count(3)=10").times(10, "undo()=1").go("undo()=-3 does(1,1,0)=-1 does(0,0,1)=0");
        Run moved = Run.holds("6: 10 at most: each in its own HOUR, of its own one", Given.THREE + "does(0,0,0)=-1 does(0,1,1)=-1 does(1,2,2)=-1 does(2,3,0)=-1 does(2,0,1)=-1 does(1,1,2)=-1 does(0,2,0)=-1 does(1,3,1)=-1 ");
        moved.go("does(2,2,2)=-1 does(0,0,1)=0 does(0,1,2)=1 does(1,2,0)=2 undo()=1 undo()=1 undo()=1 does(1,2,2)=2 does(0,1,1)=1 does(0,0,0)=0 undo()=1 undo()=1 undo()=1");
        moved.times(7, "undo()=1").go("undo()=-3 does(0,0,-1)=0 does(0,1,-1)=1 does(1,2,-1)=-1 does(2,3,-1)=-1 does(2,0,-1)=-1 does(1,1,-1)=-1 does(0,2,-1)=-1 does(1,3,-1)=-1 does(2,2,-1)=-1");
        Run.holds("6: what was undone makes room", Given.THREE).times(12, "does(0,0,0)=-1 undo()=1").go("count(3)=0 undo()=-3");
    }

    private static void whatIsNotUndone() {
        Run.holds("6: only does() is undone", Given.THREE + "does(0,0,1)=-1 put(0,0,2)=0 put(1,0,0)=4 put(2,0,1)=0 need(0,0,1)=0 told(0,1)=0 thing(-1)=3 count(3)=1 "
            + "undo()=1 put(0,0,2)=2 put(1,0,0)=0 put(2,0,1)=1 need(0,0,1)=1 told(0,1)=1 count(0)=4");
        Run.holds("6: an undo() is not undone", Given.THREE + "does(0,0,1)=-1 does(0,0,2)=1 undo()=1 count(3)=1 undo()=1 does(0,0,0)=-1");
        Run.holds("6: a refused does() is not undone", Given.THREE + "does(0,0,1)=-1 does(9,0,0)=-10 count(3)=1 undo()=1 does(0,0,0)=-1");
    }

    private static void needs() {
        Run.holds("7: what it was", Given.THREE + "need(0,1,2)=0 need(0,1,1)=2 need(0,1,1)=1 need(1,1,0)=0 need(0,2,0)=0");
        Run.holds("7: n 0 .. 5", Given.THREE + "town(3,5)=1 need(2,2,5)=0 need(2,2,0)=5 need(2,2,0)=0");
        new Run("7: BAD: n").go(Given.THREE + "town(3,5)=1").refused("need(0,0,6)=-2 need(0,0,-1)=-2 need(0,0," + Given.MIN + ")=-2 need(0,0," + Given.MAX + ")=-2");
        new Run("7: BAD: all of his are more than H").go(Given.THREE + "need(0,0,4)=0").refused("need(0,0,5)=-2 need(0,1,1)=-2 need(0,2,4)=-2").go("need(0,1,0)=0");
        new Run("7: BAD: all of his are more than H of 1").go(Given.THREE + "town(3,1)=1").refused("need(0,0,2)=-2").go("need(0,0,1)=0").refused("need(0,1,1)=-2");
        Run.holds("7: no more than H together: just H", Given.THREE + "need(0,0,2)=0 need(0,1,1)=0 need(0,2,1)=0 need(0,2,2)=-2 need(0,0,3)=-2 need(0,0,1)=2 need(0,2,2)=1");
        Run.holds("7: what it was does not count to them", Given.THREE + "need(0,0,4)=0 need(0,0,4)=4 need(0,0,3)=4 need(0,0,4)=3");
        Run.holds("7: all of HIS: those of others do not count", Given.THREE + "need(0,0,4)=0 need(1,0,4)=0 need(2,1,4)=0 status(0)=0");
        Run.holds("7: the last one, the last THING", Given.CHAIN + "town(5,5)=1 need(4,8,5)=0 need(4,8,5)=5 need(4,7,1)=-2");
        new Run("7: BAD: none of PEOPLE").go(Given.THREE).refused("need(3,0,0)=-2 need(-1,0,0)=-2 need(" + Given.MIN + ",0,0)=-2 need(" + Given.MAX + ",0,0)=-2");
        new Run("7: BAD: no THING").refused("need(0,0,0)=-2").go(Given.THREE).refused("need(0,3,0)=-2 need(0,-1,0)=-2 need(0," + Given.MIN + ",0)=-2 need(0," + Given.MAX + ",0)=-2");
    }

    private static void sameAtTheLine() {
        Run.holds("11: itself, if its DEPTH is less", Given.CHAIN + "put(1,0,3)=4 at(0)=0 at(1)=1 at(2)=2");
        Run.holds("11: itself, of that DEPTH", Given.CHAIN + "at(4)=4 put(1,0,3)=4 at(3)=3 put(1,0,0)=3 at(0)=0");
        Run.holds("11: the one above it of that DEPTH: 1 more", Given.CHAIN + "at(5)=4 put(1,0,3)=4 at(4)=3 put(1,0,0)=3 at(1)=0");
        Run.holds("11: the one above it of that DEPTH: the deepest", Given.CHAIN + "at(8)=4 put(1,0,3)=4 at(8)=3 put(1,0,2)=3 at(8)=2 put(1,0,1)=2 at(8)=1 put(1,0,0)=1 at(8)=0");
        Run.holds("11: DEPTH: under none 0, wherever it comes", "thing(-1)=0 thing(0)=1 thing(-1)=2 thing(2)=3 thing(1)=4 put(1,0,0)=4 at(2)=2 at(3)=2 at(4)=0 put(1,0,1)=0 at(3)=3 at(4)=1");
        new Run("11: BAD").refused("at(0)=-2").go(Given.THREE).refused("at(3)=-2 at(-1)=-2 at(" + Given.MIN + ")=-2 at(" + Given.MAX + ")=-2").go("at(2)=2");
    }

    private static void groups() {
        Run.holds("12: who does nothing has no GROUP, pays nothing", Given.THREE + "put(0,0,1)=0 does(2,0,0)=-1 pays(0,0)=0 pays(1,0)=0 pays(2,0)=0");
        Run nobody = new Run("12: all who do nothing pay nothing, whatever the KIND").go(Given.THREE + "town(5,2)=1");
        Run alone = new Run("12: who does it alone pays nothing, whatever the KIND").go(Given.THREE + "town(5,2)=1 does(4,1,1)=-1 does(3,1,2)=-1");
        for (int kind = 1; kind <= 5; kind++) {
            nobody.go("put(0,1," + kind + ")=" + (kind - 1) + " pays(0,1)=0 pays(4,1)=0 all()=0");
            alone.go("put(0,1," + kind + ")=" + (kind - 1) + " pays(4,1)=0 pays(3,1)=0 pays(0,1)=0 all()=0");
        }
        Run all = new Run("12: HOUR: a penny for each other one: all of 5").go(Given.THREE + "town(5,1)=1");
        for (int p = 0; p < 5; p++) all.go("does(" + p + ",0,2)=-1");
        all.go("pays(0,0)=4 pays(4,0)=4");
        all.go("put(0,0,1)=0 pays(0,0)=8 pays(4,0)=8 put(0,0,2)=1 pays(0,0)=20 pays(4,0)=0");
        all.go("put(0,0,3)=2 pays(0,0)=0 pays(1,0)=1 pays(4,0)=4 put(0,0,4)=3 pays(0,0)=8 put(0,0,5)=4 pays(0,0)=0 pays(4,0)=4");
        Run.holds("12: SAME: one at the line, not of one above", Given.THREE + "does(0,0,0)=-1 does(1,0,1)=-1 pays(0,0)=0 put(1,0,0)=4 pays(0,0)=1 pays(1,0)=1 does(2,0,2)=-1 pays(0,0)=1");
        Run.holds("12: THE GROUP of an HOUR: those of another one are not of it", Given.THREE + "does(0,0,0)=-1 does(1,1,0)=-1 pays(0,0)=0 pays(1,1)=0");
        new Run("12: BAD").go(Given.THREE).refused("pays(3,0)=-2 pays(-1,0)=-2 pays(" + Given.MIN + ",0)=-2 pays(" + Given.MAX + ",0)=-2 pays(0,4)=-2 pays(0,-1)=-2 pays(0," + Given.MIN + ")=-2 pays(0," + Given.MAX + ")=-2");
    }

    private static void rich() {
        String two = Given.THREE + "put(0,0,2)=0 does(1,0,2)=-1 does(2,0,2)=-1 ";
        Run.holds("12: BOUGHT: RICH does nothing: as in an HOUR", two + "pays(0,0)=0 pays(1,0)=1 pays(2,0)=1");
        Run.holds("12: BOUGHT: RICH is of another GROUP: as in an HOUR", two + "does(0,0,0)=-1 pays(0,0)=0 pays(1,0)=1 pays(2,0)=1");
        Run.holds("12: BOUGHT: RICH is of it: what all of it would pay", two + "put(2,0,2)=0 pays(0,0)=0 pays(1,0)=0 pays(2,0)=2");
        Run.holds("12: BOUGHT: RICH is of it by THE LINE", two + "does(2,0,1)=2 does(1,0,0)=2 put(2,0,2)=0 pays(1,0)=0 pays(2,0)=0 put(1,0,0)=4 pays(1,0)=0 pays(2,0)=2");
    }

    private static void listed() {
        Run.holds("12: LISTED: a penny for each of it with a lesser number: none of a greater", Given.THREE + "put(0,0,3)=0 does(0,0,2)=-1 does(1,0,2)=-1 pays(0,0)=0 pays(1,0)=1 does(2,0,2)=-1 pays(1,0)=1 pays(2,0)=2");
        Run.holds("12: LISTED: none of those who do not do a SAME THING", Given.THREE + "put(0,0,3)=0 does(0,0,0)=-1 does(2,0,2)=-1 pays(2,0)=0 does(1,0,2)=-1 pays(2,0)=1");
    }

    private static void idle() {
        String town = Given.THREE + "put(0,0,4)=0 put(1,0,0)=4 ";
        Run.holds("12: IDLE: nothing for THING 0 itself", town + "does(0,0,0)=-1 does(1,0,0)=-1 does(2,0,0)=-1 pays(0,0)=0 pays(1,0)=0 pays(2,0)=0");
        Run.holds("12: IDLE: those who do just that count to no GROUP, either", town + "does(0,0,0)=-1 does(1,0,1)=-1 pays(0,0)=0 pays(1,0)=0 does(2,0,1)=-1 pays(1,0)=2 pays(2,0)=2 pays(0,0)=0");
        Run.holds("12: IDLE: as SHARED: a THING under 0 is not 0 itself", town + "does(0,0,1)=-1 does(2,0,1)=-1 pays(0,0)=2 pays(2,0)=2");
        Run.holds("12: IDLE alone is so: THING 0 of another KIND is fined", Given.THREE + "does(0,0,0)=-1 does(1,0,0)=-1 pays(0,0)=1 put(0,0,1)=0 pays(0,0)=2 put(0,0,4)=1 pays(0,0)=0");
    }

    private static void copied() {
        String town = Given.THREE + "put(0,0,5)=0 put(0,1,5)=0 put(0,2,5)=0 put(0,3,5)=0 ";
        Run.holds("12: COPIED: HOUR 0: none is ahead", town + "does(0,0,2)=-1 does(1,3,2)=-1 does(2,1,2)=-1 pays(0,0)=0");
        Run.holds("12: COPIED: 2 more, if another one did it", town + "does(0,0,2)=-1 does(1,1,2)=-1 pays(1,1)=2 pays(0,0)=0");
        Run.holds("12: COPIED: another one: not he himself", town + "does(1,0,2)=-1 does(1,1,2)=-1 pays(1,1)=0");
        Run.holds("12: COPIED: 2 more, not 4, if two others did it", town + "does(0,0,2)=-1 does(1,0,2)=-1 does(2,1,2)=-1 pays(2,1)=2");
        Run.holds("12: COPIED: the HOUR ahead, not one ahead of that, nor the next", town + "does(0,0,2)=-1 does(0,3,2)=-1 does(1,2,2)=-1 pays(1,2)=0");
        Run.holds("12: COPIED: SAME by THE LINE", town + "does(0,0,0)=-1 does(1,1,1)=-1 pays(1,1)=0 put(1,0,0)=4 pays(1,1)=2");
        Run.holds("12: COPIED: as LISTED, and 2 more", town + "does(0,0,2)=-1 does(0,1,2)=-1 does(1,1,2)=-1 does(2,1,2)=-1 pays(0,1)=0 pays(1,1)=3 pays(2,1)=4");
        Run.holds("12: COPIED: who does nothing pays nothing", town + "does(0,0,2)=-1 pays(1,1)=0 pays(0,1)=0");
        Run.holds("12: COPIED: whatever the KIND of the HOUR ahead", town + "put(0,0,4)=5 does(0,0,0)=-1 does(1,1,0)=-1 pays(1,1)=2");
        Run.holds("12: COPIED alone is so", town + "put(0,1,3)=5 does(0,0,2)=-1 does(1,1,2)=-1 pays(1,1)=0");
        Run.holds("12: COPIED: the last of 5 HOURS", Given.THREE + "town(2,5)=1 put(0,4,5)=0 does(0,3,2)=-1 does(1,4,2)=-1 pays(1,4)=2");
    }

    private static void all() {
        Run.holds("13: ALL: where nothing is done", "all()=0 town(1,1)=1 all()=0 town(5,5)=1 all()=0");
        Run most = Run.holds("13: ALL: of all PEOPLE in all HOURS", "thing(-1)=0 thing(-1)=1 town(5,5)=1 ");
        for (int h = 0; h < 5; h++) {
            for (int p = 0; p < 5; p++) most.go("does(" + p + "," + h + ",1)=-1");
            most.go("put(0," + h + ",1)=0 all()=" + 40 * (h + 1));
        }
        Run.holds("13: ALL: the last one in the last HOUR", Given.THREE + "put(0,3,3)=0 does(0,3,2)=-1 does(2,3,2)=-1 pays(2,3)=1 all()=1");
    }
}
