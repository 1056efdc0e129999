/** The edges of promises 27 to 31: each sentence of the document that names one has a run of its own. */
public final class KeptEdgesTest {
    /** Of everything that an IMAGE keeps, something; OTHERWISE changes all of it. */
    private static final String BUSY = Given.THREE + "town(5,5)=1 put(0,4,5)=0 put(1,0,1)=4 put(2,0,4)=0 does(4,4,1)=-1 does(4,4,2)=1 need(4,2,5)=0 told(4,40)=0 ";
    private static final String FULL_TEXT = Given.bytes(248) + "type(0,2)=250 ";
    /** Each has 60 ways and more: too many together. */
    private static final String NO_DAY = Given.THREE + "town(3,5)=1 need(0,0,1)=0 need(0,1,1)=0 need(0,2,1)=0 need(1,0,1)=0 need(1,1,1)=0 need(1,2,1)=0 need(2,0,1)=0 need(2,1,1)=0 need(2,2,1)=0 put(1,0,0)=4 ";
    private static final String OTHERWISE = "town(1,2)=1 thing(2)=3 put(0,1,2)=0 put(1,0,3)=1 does(0,1,3)=-1 need(0,3,2)=0 told(0,3)=0 ";

    public static void main(String[] args) {
        images();
        whatImagesKeep();
        whatImagesDoNotKeep();
        imagesRefused();
        status();
        whatIsNotRefused();
        theFirstReason();
        counts();
        digests();
        manyCalls();
        Run.end();
    }

    private static void images() {
        Run.holds("27: IMAGES 0, 1: the one is not the other", "image(0)=1 " + Given.THREE + "image(1)=1 from(0)=1 count(0)=0 from(1)=1 count(0)=3 from(0)=1 count(0)=0");
        Run.holds("27: 1 alone is kept", Given.THREE + "image(1)=1 from(0)=-3 from(1)=1 count(0)=3");
        Run.holds("27: kept again: the last one counts", "image(0)=1 " + Given.THREE + "image(0)=1 town(1,1)=1 from(0)=1 count(0)=3 count(1)=3");
        Run.holds("27: a new object may be kept", "image(0)=1 " + Given.THREE + "from(0)=1 count(0)=0");
        new Run("27: all stays as it is").go(BUSY).leaves("image(0)=1 image(1)=1");
        Run.holds("28: it goes on from one: the IMAGE stays", "image(0)=1 " + Given.THREE + "from(0)=1 thing(-1)=0 thing(0)=1 from(0)=1 count(0)=0 from(0)=1 count(0)=0");
        Run.holds("28: it goes on from one: one IMAGE may be kept from the other", Given.THREE + "image(0)=1 town(1,1)=1 from(0)=1 image(1)=1 town(2,2)=1 image(0)=1 from(1)=1 count(1)=3 from(0)=1 count(1)=2");
        new Run("28: from one, as it was").go(BUSY + "image(0)=1").leaves(OTHERWISE + "from(0)=1");
    }

    private static void whatImagesKeep() {
        String back = BUSY + "image(1)=1 " + OTHERWISE + "from(1)=1 ";
        Run.holds("27: IMAGES keep THINGS", back + "count(0)=3 at(1)=1 thing(2)=3");
        Run.holds("27: IMAGES keep PEOPLE, HOURS", back + "count(1)=5 count(2)=5");
        Run.holds("27: IMAGES keep KINDS", back + "put(0,4,0)=5 put(0,1,0)=0");
        Run.holds("27: IMAGES keep THE LINE", back + "put(1,0,0)=1");
        Run.holds("27: IMAGES keep RICH", back + "put(2,0,0)=4");
        Run.holds("27: IMAGES keep what is done", back + "does(4,4,0)=2 does(0,1,0)=-1");
        Run.holds("27: IMAGES keep NEEDS", back + "need(4,2,0)=5 need(0,2,0)=0");
        Run.holds("27: IMAGES keep what was told", back + "told(4,0)=40 told(0,0)=0");
        Run.holds("27: what may be undone they keep", back + "count(3)=2 undo()=1 does(4,4,1)=1 undo()=1 undo()=1 does(4,4,-1)=-1 undo()=1 undo()=-3");
        Run.holds("27: what may be undone they keep: what was done ahead of each", Given.THREE + "does(0,0,0)=-1 does(0,0,1)=0 image(0)=1 undo()=1 undo()=1 does(1,1,2)=-1 does(1,1,2)=2 from(0)=1 undo()=1 does(0,0,0)=0");
        Run.holds("27: IMAGES keep under which THINGS are", Given.THREE + "put(1,0,0)=4 image(0)=1").text("thing;thing;thing 1;").go("read()=3 from(0)=1 at(1)=0 at(2)=2");
        Run.holds("27: what may be undone they keep: none", "image(0)=1 " + Given.THREE + "does(0,0,1)=-1 from(0)=1 count(3)=0 undo()=-3");
        Run.holds("27: what may be undone they keep: 10", Given.THREE + "does(0,0,0)=-1").times(10, "does(0,0,1)=0 undo()=1").times(10, "does(1,0,-1)=-1")
            .go("image(0)=1 town(3,4)=1 count(3)=0 from(0)=1 count(3)=10").times(10, "undo()=1").go("undo()=-3 does(0,0,-1)=0");
    }

    private static void whatImagesDoNotKeep() {
        Run.holds("28: all but IMAGES", "image(0)=1 " + Given.THREE + "image(1)=1 from(0)=1 from(1)=1 count(0)=3");
        new Run("28: all but THE TEXT").text("thing;").go("image(0)=1").text("thing;thing;").go("from(0)=1 count(4)=12 read()=2");
        Run.holds("28: all but THE FRACTION", "crowd(1,2,1)=1 image(0)=1 crowd(1,3,1)=1 from(0)=1 part(0)=1 part(1)=3");
        Run.holds("28: all but STATUS", "undo()=-3 image(0)=1 undo()=-3 at(0)=-2 from(0)=1 status(1)=2 status(0)=1");
        new Run("28: a TOWN that is read leaves IMAGES").go(BUSY + "image(0)=1").text("thing;").go("read()=1 from(0)=1 count(0)=3 count(1)=5 count(3)=2");
    }

    private static void imagesRefused() {
        new Run("27: BAD").go(BUSY).refused("image(2)=-2 image(-1)=-2 image(" + Given.MIN + ")=-2 image(" + Given.MAX + ")=-2").go("from(0)=-3 from(1)=-3");
        new Run("28: BAD").go(BUSY + "image(0)=1 image(1)=1").refused("from(2)=-2 from(-1)=-2 from(" + Given.MIN + ")=-2 from(" + Given.MAX + ")=-2");
        new Run("28: NO: none was kept").go(BUSY).refused("from(0)=-3 from(1)=-3").go("image(0)=1").refused("from(1)=-3").go("image(1)=1 from(1)=1");
        new Run("28: BAD is ahead of NO").refused("from(2)=-2 from(-1)=-2");
    }

    private static void status() {
        new Run("29: nothing was refused").go(BUSY + "status(0)=0 status(1)=0 status(2)=0");
        Run.holds("29: BAD (0): each that is told as BAD", "thing(5)=-2 town(0,0)=-2 put(9,0,0)=-2 does(9,0,0)=-10 need(0,0,0)=-2 type(0,0)=-2 at(0)=-2 pays(9,0)=-2 least(9,0)=-2 "
            + "list(9)=-2 rests(9)=-10 better(9,0)=-2 name(0)=-1000 line(9)=-2 choir(0,1)=-2 told(9,0)=-2 did(9,0)=-10 copied(9)=-2 crowd(0,0,0)=-2 part(9)=-2 image(9)=-2 from(9)=-2 "
            + "status(9)=-1 count(9)=-2 status(0)=24 status(1)=0 status(2)=0");
        Run.holds("29: NO (1): each that is told as NO", NO_DAY + "undo()=-3 least(-1,0)=-3 fewest()=-3 from(0)=-3 status(1)=4 status(0)=0 status(2)=0");
        Run.holds("29: FULL (2): each that is told as FULL", Given.CHAIN + FULL_TEXT + "thing(-1)=-4 type(0,1)=-4 status(2)=2 status(0)=0 status(1)=0");
        new Run("29: -1: another what (counts as BAD)").refused("status(3)=-1 status(-1)=-1 status(" + Given.MIN + ")=-1 status(" + Given.MAX + ")=-1").go("status(0)=4");
        Run.holds("29: to ask for it counts for nothing", "status(0)=0 status(0)=0 status(1)=0 status(2)=0 status(0)=0");
    }

    private static void whatIsNotRefused() {
        Run.holds("29: NONE is no refusal", "better(0,0)=-1 copied(0)=-1 does(0,0,-1)=-1 thing(-1)=0 town(2,5)=1 need(0,0,3)=0 need(1,0,3)=0 fewest()=-1 status(0)=0 status(1)=0 status(2)=0");
        Run.holds("29: -5 of did() is no refusal", "told(0,1)=0 did(0,0)=-5 did(0,-1)=0 status(0)=0 status(1)=0 status(2)=0");
        Run.holds("29: NONE and -5 of rests() are no refusals", "thing(-1)=0 town(3,2)=1 put(0,0,2)=0 put(0,1,2)=0 need(0,0,1)=0 need(1,0,1)=0 need(2,0,2)=0 "
            + "does(2,0,0)=-1 does(2,1,0)=-1 does(0,0,0)=-1 does(1,0,0)=-1 rests(0)=-1 rests(1)=-5 status(0)=0 status(1)=0 status(2)=0");
        new Run("29: a FAULT is no refusal").text("thing").go("read()=-15 status(0)=0 status(1)=0 status(2)=0");
    }

    private static void theFirstReason() {
        Run.holds("29: the first of BAD, NO, FULL: it counts once", Given.CHAIN + FULL_TEXT + "thing(9)=-2 type(0,9)=-2 from(2)=-2 status(0)=3 status(1)=0 status(2)=0");
        refusedLeaveAll();
        Run.holds("29: two numbers that are not as told count once", "town(9,9)=-2 does(9,9,9)=-10 crowd(0,0,-1)=-2 status(0)=3");
    }

    /** What the digest does not tell: IMAGES, what THE TEXT has, and what each does() was ahead of. */
    private static void refusedLeaveAll() {
        String each = "thing(-2)=-2 town(0,5)=-2 put(0,0,6)=-2 does(5,0,0)=-10 need(0,0,6)=-2 type(0,9)=-2 at(-1)=-2 pays(5,0)=-2 least(-1,1)=-2 list(2)=-2 rests(2)=-10 better(5,0)=-2 "
            + "name(9)=-1000 line(5)=-2 choir(0,6)=-2 told(0,41)=-2 did(5,0)=-10 copied(5)=-2 crowd(19,1,0)=-2 part(2)=-2 image(2)=-2 from(2)=-2 status(3)=-1 count(5)=-2 ";
        new Run("refused, changing nothing but STATUS").go("image(1)=1 " + BUSY + "image(0)=1").text("thing;thing 0;").refused(each)
            .go("undo()=1 does(4,4,0)=1 undo()=1 undo()=1 does(4,4,0)=-1 read()=2 count(0)=2 from(0)=1 count(0)=3 count(1)=5 count(3)=2 from(1)=1 count(0)=0 count(1)=3");
    }

    private static void counts() {
        Run.holds("30: none of any", "town(1,1)=1 count(0)=0 count(1)=1 count(2)=1 count(3)=0 count(4)=0");
        Run.holds("30: the most of all", Given.CHAIN + FULL_TEXT + "town(5,5)=1").times(11, "does(0,0,-1)=-1").go("count(0)=9 count(1)=5 count(2)=5 count(3)=10 count(4)=250");
        new Run("30: BAD").refused("count(5)=-2 count(-1)=-2 count(" + Given.MIN + ")=-2 count(" + Given.MAX + ")=-2");
    }

    private static void digests() {
        new Run("31: the least town").go("town(1,1)=1").digest(0, 1, 1, 0, 0, 4, 0, 0, -1, 0, 0, 1);
        new Run("31: of THINGS under which (NONE)").go("town(1,1)=1 " + Given.THREE).digest(3, 1, 1, 0, 0, -1, 0, -1, 4, 0, 0, -1, 0, 0, 0, 0, 0, 1);
        new Run("31: of each of PEOPLE what he does, needs, paid; then the next").go(Given.THREE + "town(2,2)=1 does(0,1,2)=-1 does(1,0,1)=-1 need(0,2,1)=0 need(1,0,2)=0 told(0,40)=0 told(1,3)=0")
            .digest(3, 2, 2, 2, 0, -1, 0, -1, 4, 0, 0, 0, -1, 2, 0, 0, 1, 40, 1, -1, 2, 0, 0, 3, 0, 1);
        new Run("31: what may be undone counts by how many").go(Given.THREE + "town(1,1)=1 does(0,0,2)=-1 undo()=1").digest(3, 1, 1, 0, 0, -1, 0, -1, 4, 0, 0, -1, 0, 0, 0, 0, 0, 1);
        new Run("31: THE FRACTION: above, below").go("town(1,1)=1 crowd(18,9,1)=1").digest(0, 1, 1, 0, 0, 4, 0, 0, -1, 0, 132080236787517137L, 150094635296999121L);
        new Run("31: THE TEXT counts by its length").go("town(1,1)=1 type(0,8)=8").digest(0, 1, 1, 0, 8, 4, 0, 0, -1, 0, 0, 1);
        new Run("31: IMAGES and STATUS do not count").go("town(1,1)=1 image(0)=1 image(1)=1 undo()=-3 thing(7)=-2").digest(0, 1, 1, 0, 0, 4, 0, 0, -1, 0, 0, 1);
        theGreatestTown();
    }

    /** 98 numbers: h goes round the longs many times. */
    private static void theGreatestTown() {
        Run run = new Run("31: the greatest town").go(Given.CHAIN + FULL_TEXT + "town(5,5)=1 put(2,0,4)=0 put(1,0,0)=4 ");
        long[] all = new long[98];
        int[] counts = {9, 5, 5, 10, 250};
        int at = 0;
        for (int n : counts) all[at++] = n;
        for (int t = 0; t < 9; t++) all[at++] = t - 1;
        at++;
        all[at++] = 4;
        for (int h = 0; h < 5; h++) {
            run.go("put(0," + h + ",5)=0");
            all[at++] = 5;
        }
        for (int p = 0; p < 5; p++) {
            for (int h = 0; h < 5; h++) {
                run.go("does(" + p + "," + h + ",8)=-1");
                all[at++] = 8;
            }
            run.go("need(" + p + ",8,5)=0 told(" + p + ",40)=0");
            all[at + 8] = 5;
            all[at + 9] = 40;
            at += 10;
        }
        all[97] = 1;
        run.digest(all);
    }

    private static void manyCalls() {
        Run run = new Run("an object is used for 512 calls").go(Given.THREE).times(253, "does(0,0,0)=-1 does(0,0,-1)=0");
        run.go("count(3)=10 undo()=1 does(0,0,2)=0");
        Run dear = new Run("512 dear calls").go("thing(-1)=0 thing(0)=1 put(1,0,0)=4 town(5,5)=1 need(0,0,2)=0 need(1,0,2)=0 need(2,0,2)=0 need(3,0,2)=0 need(4,0,1)=0");
        dear.times(83, "told(0,0)=0 least(-1,0)=8 fewest()=-1 list(1)=8 rests(0)=0 did(0,-1)=11");
    }
}
