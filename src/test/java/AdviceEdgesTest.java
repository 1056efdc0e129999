/** The edges of promises 18 to 21: each sentence of the document that names one has a run of its own. */
public final class AdviceEdgesTest {
    public static void main(String[] args) {
        better();
        betterByKinds();
        names();
        lines();
        choirs();
        choirsByKinds();
        Run.end();
    }

    private static void better() {
        Run.holds("18: NONE: no THINGS", "better(0,0)=-1 better(2,3)=-1 status(0)=0 status(1)=0 status(2)=0");
        new Run("18: BAD is ahead of NONE").refused("better(3,0)=-2 better(0,4)=-2");
        Run.holds("18: least of like ones: all are", Given.CHAIN + "better(0,0)=0 better(2,3)=0");
        Run.holds("18: least of like ones: the first of those that cost less", Given.THREE + "does(0,0,0)=-1 does(1,0,1)=-1 better(2,0)=2 does(1,0,-1)=1 better(2,0)=1");
        Run.holds("18: the last THING alone", "thing(-1)=0 thing(0)=1 thing(0)=2 thing(0)=3 thing(0)=4 thing(0)=5 thing(0)=6 thing(0)=7 thing(-1)=8 put(1,0,0)=4 does(0,0,4)=-1 better(1,0)=8");
        Run.holds("18: a THING, though nothing would cost less", "thing(-1)=0 does(0,0,0)=-1 does(1,0,0)=-1 better(2,0)=0 better(0,0)=0");
        Run.holds("18: others as they are: what he does himself does not count", Given.THREE + "does(0,0,0)=-1 better(0,0)=0 does(0,0,2)=0 better(0,0)=0");
        Run.holds("18: in an HOUR: others in another one do not count", Given.THREE + "does(0,1,0)=-1 does(1,3,0)=-1 better(2,0)=0 better(2,2)=0 better(2,1)=1");
        Run.holds("18: the last one in the last HOUR", Given.CHAIN + "town(5,5)=1 does(0,4,0)=-1 better(4,4)=1 better(4,3)=0");
        new Run("18: nothing is done by it").go(Given.THREE + "does(0,0,0)=-1").leaves("better(1,0)=1 better(0,0)=0");
        new Run("18: BAD").go(Given.THREE).refused("better(3,0)=-2 better(-1,0)=-2 better(" + Given.MIN + ",0)=-2 better(" + Given.MAX + ",0)=-2 better(0,4)=-2 better(0,-1)=-2 better(0," + Given.MIN + ")=-2 better(0," + Given.MAX + ")=-2");
    }

    private static void betterByKinds() {
        Run.holds("18: HOUR 0 has none ahead", Given.THREE + "put(0,0,5)=0 does(0,1,0)=-1 does(1,3,0)=-1 better(2,0)=0");
        Run.holds("18: what was done in the HOUR ahead", Given.THREE + "put(0,1,5)=0 does(0,0,0)=-1 better(1,1)=1 better(0,1)=0");
        Run.holds("18: what he would pay, not what others would", Given.THREE + "put(0,1,5)=0 does(0,1,0)=-1 better(1,0)=0 put(0,0,3)=0 does(1,0,0)=-1 better(0,0)=0");
        Run.holds("18: IDLE: THING 0 itself, whoever does it", Given.THREE + "put(0,0,4)=0 does(0,0,0)=-1 does(1,0,0)=-1 better(2,0)=0");
    }

    private static void names() {
        Run.holds("19: one that is under none already", Given.THREE + "put(1,0,0)=4 does(0,0,0)=-1 does(1,0,1)=-1 name(0)=0 name(2)=0");
        Run.holds("19: by how much ALL is less: nothing is done", Given.THREE + "put(1,0,0)=4 name(0)=0 name(1)=0 name(2)=0");
        Run.holds("19: by how much ALL is less", Given.THREE + "put(1,0,0)=4 does(0,0,0)=-1 does(1,0,1)=-1 does(2,0,0)=-1 all()=6 name(1)=4");
        Run.holds("19: those under it stay under it", Given.CHAIN + "put(1,0,0)=4 does(0,0,1)=-1 does(1,0,2)=-1 does(2,0,0)=-1 all()=6 name(1)=4 name(2)=4");
        // under none 4 is of DEPTH 0, so 8 is of 4 and stands for itself; under none 3 would leave 8 one too deep
        Run.holds("19: those under it come up with it", Given.CHAIN + "does(0,0,7)=-1 does(1,0,8)=-1 all()=2 name(8)=2 name(7)=2 name(4)=2 name(3)=0 name(0)=0");
        new Run("19: were it so: it is not").go(Given.THREE + "put(1,0,0)=4 does(0,0,0)=-1 does(1,0,1)=-1").leaves("name(1)=2 all()=2 at(1)=0 name(1)=2");
        new Run("19: BAD: -1000").refused("name(0)=-1000").go(Given.THREE).refused("name(3)=-1000 name(-1)=-1000 name(9)=-1000 name(" + Given.MIN + ")=-1000 name(" + Given.MAX + ")=-1000");
    }

    private static void lines() {
        Run.holds("20: the least of like ones: all are", Given.CHAIN + "line(0)=0 line(2)=0");
        Run.holds("20: the line 1", Given.CHAIN + "does(0,0,0)=-1 does(1,0,1)=-1 line(0)=1 line(1)=1 line(2)=0");
        Run.holds("20: the line 2", Given.CHAIN + "does(0,0,1)=-1 does(1,0,2)=-1 line(1)=2");
        Run.holds("20: the line 3", Given.CHAIN + "does(0,0,2)=-1 does(1,0,3)=-1 line(1)=3");
        Run.holds("20: the line 4, the last", Given.CHAIN + "does(0,0,3)=-1 does(1,0,4)=-1 line(1)=4 line(0)=4");
        Run.holds("20: deeper than the last line: all are like", Given.CHAIN + "does(0,0,4)=-1 does(1,0,5)=-1 line(0)=0 line(1)=0 does(0,0,8)=4 line(1)=0");
        Run.holds("20: he pays least in all HOURS", Given.THREE + "put(0,1,2)=0 does(0,0,0)=-1 does(1,0,1)=-1 does(0,1,0)=-1 does(1,1,1)=-1 does(2,1,1)=-1 "
            + "line(1)=0 does(0,3,0)=-1 does(1,3,1)=-1 line(1)=1");
        Run.holds("20: in all HOURS: the last of 5", Given.CHAIN + "town(5,5)=1 does(3,4,0)=-1 does(4,4,1)=-1 line(4)=1 line(3)=1 line(0)=0");
        new Run("20: whatever THE LINE is: it stays").go(Given.CHAIN + "does(0,0,2)=-1 does(1,0,3)=-1 put(1,0,0)=4").leaves("line(1)=3 all()=2").go("put(1,0,4)=0 line(1)=3");
        Run.holds("20: no THINGS", "line(0)=0 line(2)=0 status(0)=0");
        new Run("20: BAD").go(Given.THREE).refused("line(3)=-2 line(-1)=-2 line(" + Given.MIN + ")=-2 line(" + Given.MAX + ")=-2").go("town(5,1)=1 line(4)=0").refused("line(5)=-2");
    }

    private static void choirs() {
        Run one = Run.holds("21: m 1 .. n: 1", Given.THREE + "town(3,1)=1 choir(0,1)=0 ");
        for (int kind = 1; kind <= 5; kind++) one.go("put(0,0," + kind + ")=" + (kind - 1) + " choir(2,1)=0");
        Run.holds("21: m 1 .. n: n", Given.CHAIN + "choir(8,3)=6 town(5,5)=1 choir(8,5)=20 town(1,1)=1 choir(8,1)=0");
        new Run("21: BAD: m").go(Given.THREE).refused("choir(0,0)=-2 choir(0,4)=-2 choir(0,-1)=-2 choir(0," + Given.MIN + ")=-2 choir(0," + Given.MAX + ")=-2").go("town(1,1)=1").refused("choir(0,2)=-2");
        new Run("21: BAD: no THING").refused("choir(0,1)=-2").go(Given.THREE).refused("choir(3,1)=-2 choir(-1,1)=-2 choir(" + Given.MIN + ",1)=-2 choir(" + Given.MAX + ",1)=-2");
        Run.holds("21: others nothing, whatever is done now", Given.THREE + "does(0,0,0)=-1 does(1,0,0)=-1 does(2,0,0)=-1 choir(0,1)=0 choir(0,2)=2 choir(2,3)=6");
        new Run("21: nothing is done by it").go(Given.THREE + "does(0,0,0)=-1").leaves("choir(0,2)=2 all()=0");
        Run.holds("21: the least over all HOURS: the first", Given.THREE + "town(3,3)=1 put(0,0,3)=0 put(0,1,1)=0 put(0,2,1)=0 choir(2,3)=3");
        Run.holds("21: the least over all HOURS: the last", Given.THREE + "town(3,3)=1 put(0,2,3)=0 put(0,1,1)=0 put(0,0,1)=0 choir(2,3)=3");
        Run.holds("21: over all HOURS: none beyond", Given.THREE + "town(3,3)=1 put(0,2,3)=0 town(3,2)=1 choir(2,3)=6 put(0,0,1)=0 put(0,1,1)=0 choir(2,3)=12");
    }

    private static void choirsByKinds() {
        Run.holds("21: no HOUR ahead", Given.THREE + "town(3,2)=1 put(0,0,1)=0 put(0,1,5)=0 does(0,0,2)=-1 does(1,0,2)=-1 does(2,0,2)=-1 choir(2,3)=3 choir(2,2)=1 choir(2,1)=0");
        Run.holds("21: IDLE: THING 0 itself", Given.THREE + "town(3,1)=1 put(1,0,0)=4 put(0,0,4)=0 choir(0,3)=0 choir(1,3)=12 choir(2,3)=12");
        Run.holds("21: BOUGHT: they together, RICH or not", Given.THREE + "town(3,1)=1 put(0,0,2)=0 choir(0,3)=6 choir(0,2)=2 put(2,0,2)=0 choir(0,3)=6 choir(0,2)=2");
    }
}
