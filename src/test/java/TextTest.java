/** Promises 8 to 10: the text, and the town that it tells. */
public final class TextTest {
    public static void main(String[] args) {
        typing();
        clearing();
        aWholeTown();
        whatATownTakesThePlaceOf();
        textsToTheLastByte();
        faultsOfTokens();
        faultsOfNumbers();
        faultsOfOrder();
        Run.end();
    }

    private static void typing() {
        Run run = new Run("8 type")
            .go("type(0,0)=-2 type(0,9)=-2 type(0,-1)=-2 type(0,1)=1 type(-1,8)=9 count(4)=9 status(0)=3");
        run.times(1, "type(0,8)=17").go("clear()=17");
        for (int i = 1; i <= 31; i++) run.go("type(0,8)=" + 8 * i);
        run.go("count(4)=248 type(0,3)=-4 type(0,8)=-4 type(0,9)=-2 count(4)=248 type(0,2)=250 type(0,1)=-4 count(4)=250")
            .go("status(0)=4 status(2)=3");
        // "thing;" within more bytes: only the lowest count, the highest of them first
        new Run("8 type, which bytes").go("type(8388070228876815163,3)=3 clear()=3 type(" + Calls.packed("xxthing;") + ",6)=6 read()=1 count(0)=1");
    }

    private static void clearing() {
        new Run("9 clear").go("clear()=0").text("thing;").go("clear()=6 clear()=0 count(4)=0 read()=0");
    }

    private static void reads(String text, int items) {
        new Run("10 read '" + text + "'").text(text).go("read()=" + items + " count(4)=" + text.length() + " status(0)=0");
    }

    private static void faulty(String text, int fault) {
        new Run("10 read '" + text + "'").go("thing(-1)=0 does(1,1,0)=-1 put(1,0,2)=4").text(text)
            .go("read()=" + (-10 - fault) + " count(0)=1 count(1)=3 count(2)=4 count(3)=1 count(4)=" + text.length())
            .go("does(1,1,0)=0 put(1,0,2)=2 status(0)=0 status(1)=0 status(2)=0");
    }

    private static void aWholeTown() {
        new Run("10 read, all of it")
            .text("thing;thing 0; thing  1 ;people 4;hours 5;hour 4 5;hour 0 2;line 1;rich 3;does 3 4 2;need 2 1 5;need 0 0 0;")
            .go("read()=12 count(0)=3 count(1)=4 count(2)=5 count(3)=0")
            .go("put(1,0,1)=1 put(2,0,0)=3 put(0,4,0)=5 put(0,0,0)=2 put(0,1,0)=0 does(3,4,0)=2 does(0,0,-1)=-1")
            .go("need(2,1,0)=5 need(0,0,0)=0 told(0,0)=0 at(2)=1");
        reads("", 0);
        reads("    ", 0);
        reads("  thing ;  ", 1);
        reads("thing;thing0;need0 1 2;", 3);
        reads("thing;thing;thing;thing;thing;thing;thing;thing;thing;", 9);
        reads("thing;need 0 0 3;need 0 0 4;need 0 0 1;", 4);
        reads("hours 5;thing;need 0 0 5;", 3);
        reads("people 5;people 1;hours 1;hours 5;line 0;people 2;", 6);
        reads("line 4;line 0;rich 2;rich 0;", 4);
    }

    private static void whatATownTakesThePlaceOf() {
        new Run("10 read, what it takes the place of")
            .go("thing(-1)=0 thing(0)=1 town(5,5)=1 put(0,2,4)=0 put(1,0,1)=4 put(2,0,4)=0 does(0,0,0)=-1 need(0,0,2)=0 told(0,7)=0")
            .go("crowd(2,2,1)=1 image(0)=1 thing(9)=-2 undo()=1 undo()=-3 does(0,0,1)=-1").text("thing;")
            .go("read()=1 count(0)=1 count(1)=3 count(2)=4 count(3)=0 count(4)=6 undo()=-3")
            .go("put(0,2,0)=0 put(1,0,4)=4 put(2,0,0)=0 does(0,0,-1)=-1 need(0,0,0)=0 told(0,0)=0")
            .go("part(0)=3 part(1)=4 status(0)=1 status(1)=2 from(0)=1 count(0)=2 count(1)=5 told(0,0)=7 count(4)=6");
        new Run("10 read, twice").text("thing;people 2;does 1 1 0;hour 1 2;line 2;need 0 0 1;rich 1;")
            .go("read()=7 read()=7 count(0)=1 least(0,0)=0").text("thing;").go("read()=1 count(0)=1 count(1)=3 least(0,0)=9 all()=0")
            .text("thing;x").go("read()=-16 count(0)=1").text("thing;thing 0;does 0 0 1;").go("read()=3 count(0)=2 does(0,0,1)=1");
        new Run("10 read, an empty one").go("thing(-1)=0 town(1,1)=1 read()=0 count(0)=0 count(1)=3 count(2)=4");
    }

    private static void textsToTheLastByte() {
        reads(" ".repeat(250), 0);
        reads(" ".repeat(244) + "thing;", 1);
        faulty(" ".repeat(245) + "thing", 250);
        faulty(" ".repeat(242) + "people 3", 250);
        faulty(" ".repeat(249) + "x", 249);
        new Run("10 read, what was typed ahead of clear").text("thingxx").text("thing").go("read()=-15")
            .text("people 345").text("people 3").go("read()=-18").text("thing;;;").text("thing;").go("read()=1");
    }

    private static void faultsOfTokens() {
        faulty("things;", 0);
        faulty("thin;", 0);
        faulty("xhing;", 0);
        faulty("thinga;", 0);
        faulty("thingz;", 0);
        faulty("thing;x;", 6);
        faulty("peoples 3;", 0);
        faulty("THING;", 0);
        faulty("thing\n;", 5);
        faulty(";", 0);
        faulty("thing;;", 6);
        faulty("3;", 0);
        faulty("thing", 5);
        faulty("thing ", 6);
        faulty("thing;thing 0", 13);
        faulty("people", 6);
        faulty("people 3  ", 10);
        faulty("does 0", 6);
        faulty("people;", 6);
        faulty("people 3 3;", 9);
        faulty("people 12;", 7);
        faulty("people 03;", 7);
        faulty("people 30;", 7);
        faulty("people 39;", 7);
        faulty("people 3/;", 8);
        faulty("people 3:;", 8);
        faulty("people`;", 6);
        faulty("people{;", 6);
        faulty("people 3", 8);
        faulty("people x;", 7);
        faulty("people thing;", 7);
        faulty("people -1;", 7);
        faulty("thing thing;", 6);
        faulty("thing;thing 00;", 12);
        faulty("thing;does 000;", 11);
        faulty("thing;thing 0 0;", 14);
        faulty("line 4 ,", 7);
        faulty(" \u00e9", 1);
    }

    private static void faultsOfNumbers() {
        faulty("thing 0;", 6);
        faulty("thing;thing 1;", 12);
        faulty("people 0;", 7);
        faulty("people 6;", 7);
        faulty("hours 0;", 6);
        faulty("hours 6;", 6);
        faulty("line 5;", 5);
        faulty("rich 3;", 5);
        faulty("people 2;rich 2;", 14);
        faulty("hour 4 0;", 5);
        faulty("hours 2;hour 2 0;", 13);
        faulty("hour 3 6;", 7);
        faulty("hour 3;", 6);
        faulty("does 0 0 0;", 9);
        faulty("thing;does 3 0 0;", 11);
        faulty("thing;does 2 4 0;", 13);
        faulty("thing;does 2 3 1;", 15);
        faulty("thing;does 2 3;", 14);
        faulty("need 0 0 0;", 7);
        faulty("thing;need 3 0 0;", 11);
        faulty("thing;need 2 1 0;", 13);
        faulty("thing;need 2 0 5;", 15);
        faulty("hours 5;thing;need 2 0 6;", 23);
        faulty("thing;thing;need 0 0 3;need 1 1 4;need 0 1 2;", 43);
    }

    private static void faultsOfOrder() {
        faulty("thing;thing;thing;thing;thing;thing;thing;thing;thing; thing;", 55);
        faulty("thing;does 0 0 0;people 3;", 17);
        faulty("thing;need 0 0 0;hours 4;", 17);
        faulty("rich 0;people 3;", 7);
        faulty("rich 0;hours 9;", 7);
        faulty("hour 0 0;hours 4;", 9);
        faulty("hour 0 0;people 3;", 9);
    }
}
