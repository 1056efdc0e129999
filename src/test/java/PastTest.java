/** Promises 22 to 26: what was done. */
public final class PastTest {
    public static void main(String[] args) {
        told();
        did();
        didByKinds();
        copied();
        crowds();
        Run.end();
    }

    private static void told() {
        new Run("22 told").go("told(0,3)=0 told(0,40)=3 told(0,41)=-2 told(0,-1)=-2 told(3,0)=-2 told(-1,0)=-2 told(0,0)=40")
            .go("told(2,1)=0 told(1,2)=0 told(2,1)=1 status(0)=4 town(3,4)=1 told(2,0)=0");
    }

    private static void did() {
        new Run("23 did").go("did(0,-1)=1 did(0,0)=9 did(3,2)=9 did(4,0)=-10 did(-1,0)=-10 did(0,3)=-10 did(0,-2)=-10 status(0)=4")
            .go("thing(-1)=0 town(2,2)=1 did(0,-1)=3 did(0,0)=0 did(0,1)=9 told(0,1)=0 did(0,-1)=0 did(0,0)=-5 did(0,1)=-5")
            .go("told(1,1)=0 did(0,-1)=1 did(0,0)=0 did(0,1)=0 thing(-1)=1 did(0,-1)=2 thing(0)=2 did(0,-1)=3 put(1,0,0)=4")
            .go("did(0,-1)=5 did(0,0)=0 did(0,1)=0 told(0,2)=1 did(0,-1)=0 put(0,1,1)=0 did(1,-1)=0 told(1,2)=1 did(1,-1)=5")
            .go("did(0,-1)=0 did(1,1)=0 all()=0 does(0,0,1)=-1 did(1,-1)=5 status(0)=4 status(1)=0");
    }

    private static void didByKinds() {
        new Run("23 did, BOUGHT").go("thing(-1)=0 thing(-1)=1 put(0,0,2)=0 put(2,0,2)=0 told(2,6)=0 did(0,-1)=2 did(0,0)=0 did(0,1)=0 did(0,2)=0")
            .go("told(2,2)=6 did(0,-1)=8 did(0,0)=0 did(0,1)=1 did(0,2)=0 told(0,1)=0 told(1,1)=0 told(2,0)=2")
            .go("did(0,-1)=4 did(0,0)=0 did(0,1)=0 did(0,2)=1");
        new Run("23 did, LISTED").go("thing(-1)=0 put(0,0,3)=0 told(1,1)=0 told(2,2)=0 did(0,-1)=1 did(0,2)=0 told(2,1)=2 did(0,-1)=0")
            .go("told(1,0)=1 did(0,-1)=2 did(0,0)=0 did(0,1)=9 did(0,2)=0");
        new Run("23 did, IDLE").go("thing(-1)=0 thing(0)=1 put(1,0,0)=4 put(0,0,4)=0 told(0,2)=0 told(2,2)=0")
            .go("did(0,-1)=2 did(0,0)=1 did(0,1)=0 did(0,2)=1");
        new Run("23 did, COPIED").go("thing(-1)=0 thing(-1)=1 put(0,1,5)=0 does(0,0,1)=-1 did(1,-1)=7")
            .go("did(1,0)=0 did(1,1)=9 did(1,2)=9 told(1,2)=0 did(1,-1)=3 did(1,0)=0 did(1,1)=1 did(1,2)=9 told(1,3)=2 did(1,-1)=2 did(1,0)=1 did(1,2)=0");
        new Run("23 did, whatever has changed").go("thing(-1)=0 town(2,3)=1 put(0,1,5)=0 told(1,2)=0 did(1,-1)=0")
            .go("does(0,0,0)=-1 did(1,-1)=1 did(1,0)=9 undo()=1 did(1,-1)=0 put(0,1,2)=5 did(1,-1)=0 put(2,0,1)=0 did(1,-1)=1")
            .go("did(1,0)=0 did(2,-1)=0 did(1,0)=0 image(0)=1 put(1,0,0)=4 thing(0)=1 did(1,-1)=4 put(1,0,4)=0 did(1,-1)=2")
            .go("from(0)=1 did(1,-1)=1 town(2,3)=1 did(1,-1)=3 told(0,1)=0 did(1,-1)=0 read()=0 did(1,-1)=1");
    }

    private static void copied() {
        new Run("24 copied").go("copied(0)=-1 copied(3)=-2 copied(-1)=-2 status(0)=2 thing(-1)=0 thing(0)=1 put(1,0,0)=4")
            .go("does(0,0,0)=-1 does(1,1,1)=-1 copied(1)=-1 does(1,1,0)=1 copied(1)=0 copied(0)=-1 does(2,0,0)=-1 copied(1)=0")
            .go("does(2,1,1)=-1 does(1,2,1)=-1 copied(1)=2 does(0,1,1)=-1 copied(1)=0 does(2,2,0)=-1 does(1,3,0)=-1 copied(1)=2")
            .go("does(0,0,-1)=0 copied(0)=-1 does(0,2,0)=-1 copied(0)=1 town(2,1)=1 does(0,0,0)=-1 does(1,0,0)=-1 copied(0)=-1");
    }

    private static void crowds() {
        new Run("25 crowd").go("crowd(2,2,1)=1 part(0)=3 part(1)=4 crowd(3,3,2)=1 part(0)=7 part(1)=27 crowd(4,2,2)=1 part(0)=11 part(1)=16")
            .go("crowd(2,4,1)=1 part(0)=7 part(1)=16 crowd(3,9,0)=1 part(0)=1 part(1)=1 crowd(18,1,18)=1 part(0)=1 part(1)=1")
            .go("crowd(18,9,18)=1 part(0)=1 part(1)=150094635296999121 crowd(18,9,1)=1")
            .go("part(0)=132080236787517137 part(1)=150094635296999121")
            .go("crowd(0,1,0)=-2 crowd(19,1,0)=-2 crowd(1,0,0)=-2 crowd(1,10,0)=-2 crowd(1,1,-1)=-2 crowd(1,1,2)=-2")
            .go("part(0)=132080236787517137 status(0)=6");
        new Run("26 part").go("part(0)=0 part(1)=1 part(2)=-2 part(-1)=-2 status(0)=2 crowd(2,2,2)=1 part(0)=1 part(1)=4");
    }
}
