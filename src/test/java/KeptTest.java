/** Promises 27 to 31: images, what was refused, how many there are, and the digest. */
public final class KeptTest {
    public static void main(String[] args) {
        images();
        whatAnImageKeeps();
        status();
        counts();
        digests();
        Run.end();
    }

    private static void images() {
        new Run("27, 28 image, from").go("from(0)=-3 from(1)=-3 from(2)=-2 from(-1)=-2 image(2)=-2 image(-1)=-2 image(0)=1 from(1)=-3")
            .go("thing(-1)=0 image(1)=1 from(0)=1 count(0)=0 from(1)=1 count(0)=1 thing(0)=1 from(1)=1 count(0)=1")
            .go("thing(0)=1 image(1)=1 from(0)=1 count(0)=0 from(1)=1 count(0)=2 status(0)=4 status(1)=3");
    }

    private static void whatAnImageKeeps() {
        new Run("27 image, what it keeps").go("thing(-1)=0 thing(0)=1 town(2,3)=1 put(0,2,4)=0 put(1,0,1)=4 put(2,0,1)=0")
            .go("does(0,0,1)=-1 does(0,0,0)=1 need(1,1,2)=0 told(1,9)=0 crowd(2,2,1)=1 type(0,3)=3 image(0)=1")
            .go("thing(1)=2 does(0,0,-1)=0 does(1,2,1)=-1 undo()=1 need(1,1,0)=2 told(1,0)=9 put(0,2,0)=4 put(1,0,0)=1 put(2,0,0)=1")
            .go("town(5,5)=1 does(4,4,1)=-1 does(4,4,0)=1 does(3,3,1)=-1 crowd(1,2,1)=1 type(0,4)=7 thing(9)=-2 from(0)=1")
            .go("count(0)=2 count(1)=2 count(2)=3 count(3)=2 count(4)=7 part(0)=1 part(1)=2 status(0)=1")
            .go("put(0,2,4)=4 put(1,0,1)=1 put(2,0,1)=1 need(1,1,2)=2 told(1,9)=9 does(1,2,-1)=-1 undo()=1")
            .go("undo()=1 does(0,0,1)=1 undo()=1 undo()=1 does(0,0,-1)=-1 undo()=1 undo()=-3")
            .go("from(0)=1 count(3)=2 does(0,0,0)=0 thing(0)=2");
    }

    private static void status() {
        new Run("29 status").go("status(0)=0 status(1)=0 status(2)=0 status(3)=-1 status(-1)=-1 status(0)=2")
            .go("does(9,0,0)=-10 rests(9)=-10 name(9)=-1000 did(9,9)=-10 part(9)=-2 status(0)=7 undo()=-3 from(0)=-3 status(1)=2")
            .go("thing(-1)=0 thing(-1)=1 did(0,0)=0 told(0,40)=0 did(0,0)=-5 copied(0)=-1 status(0)=7 status(1)=2 status(2)=0");
    }

    private static void counts() {
        new Run("30 count").go("count(5)=-2 count(-1)=-2 status(0)=2 town(4,2)=1 thing(-1)=0 does(0,0,0)=-1 does(0,0,0)=0 type(7,5)=5")
            .go("count(0)=1 count(1)=4 count(2)=2 count(3)=2 count(4)=5");
    }

    private static void digests() {
        new Run("31 digest").digest(0, 3, 4, 0, 0, 4, 0, 0, 0, 0, 0,
                -1, -1, -1, -1, 0, -1, -1, -1, -1, 0, -1, -1, -1, -1, 0, 0, 1)
            .go("town(2,2)=1 thing(-1)=0 thing(0)=1 put(0,1,5)=0 put(1,0,3)=4 put(2,0,1)=0 does(1,0,1)=-1 does(0,1,0)=-1")
            .go("need(0,1,2)=0 need(1,0,1)=0 told(0,7)=0 told(1,8)=0 crowd(2,2,1)=1 type(9,3)=3")
            .digest(2, 2, 2, 2, 3, -1, 0, 3, 1, 0, 5, -1, 0, 0, 2, 7, 1, -1, 1, 0, 8, 3, 4)
            .go("thing(9)=-2 image(0)=1 at(0)=0 least(-1,0)=0 rests(0)=0 list(1)=0 did(0,0)=-5")
            .digest(2, 2, 2, 2, 3, -1, 0, 3, 1, 0, 5, -1, 0, 0, 2, 7, 1, -1, 1, 0, 8, 3, 4);
    }
}
