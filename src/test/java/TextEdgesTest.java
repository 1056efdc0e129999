/** The edges of promises 8 to 10: each sentence of the document that names one has a run of its own. */
public final class TextEdgesTest {
    /** Of everything that a read TOWN takes the place of, something. */
    private static final String BUSY = "thing(-1)=0 thing(0)=1 town(5,5)=1 put(0,4,5)=0 put(1,0,0)=4 put(2,0,4)=0 does(4,4,1)=-1 need(4,1,5)=0 told(4,40)=0 ";
    private static final String NINE = "thing;thing;thing;thing;thing;thing;thing;thing;thing;";

    public static void main(String[] args) {
        typing();
        full();
        clearing();
        tokens();
        items();
        endsTooEarly();
        words();
        numbers();
        notThereYet();
        behind();
        needs();
        bytesThatBeginNone();
        theFirstFault();
        whatIsTaken();
        Run.end();
    }

    private static void typing() {
        Run.holds("8: n 1 .. 8: how many it has", "type(0,1)=1 type(0,8)=9 type(0,2)=11 count(4)=11");
        new Run("8: BAD: n").refused("type(0,0)=-2 type(0,9)=-2 type(0,-1)=-2 type(0," + Given.MIN + ")=-2 type(0," + Given.MAX + ")=-2");
        Run.holds("8: the lowest n bytes of v", "type(" + Calls.packed("xxthing;") + ",6)=6 read()=1 clear()=6 type(" + Calls.packed("xxthing;") + ",8)=8 read()=-10");
        Run.holds("8: the highest of them first", "type(" + Calls.packed("line") + ",4)=4 type(" + Calls.packed(" 2;") + ",3)=7 read()=1 put(1,0,4)=2");
        Run.holds("8: 1 byte: the lowest", "type(" + Calls.packed("thing") + ",5)=5 type(" + Calls.packed("abcdefg;") + ",1)=6 read()=1");
        Run.holds("8: 8 bytes, the highest of them 128 and more", "type(-1,8)=8 type(-9223372036854775808,8)=16 read()=-10");
        Run.holds("8: any byte is taken, 0 too", "type(0,8)=8 type(255,1)=9 type(10,1)=10 count(4)=10 read()=-10");
    }

    private static void full() {
        new Run("8: 250 bytes at most: just 250").go(Given.bytes(248)).go("type(0,2)=250 count(4)=250 status(2)=0");
        new Run("8: FULL: 251").go(Given.bytes(248) + "type(0,2)=250").refused("type(0,1)=-4 type(0,8)=-4");
        new Run("8: FULL: not all of them have room, so none comes").go(Given.bytes(248)).refused("type(0,3)=-4 type(0,8)=-4").go("type(0,2)=250");
        new Run("8: FULL: from 243 on 8 have no room").go(Given.bytes(240) + "type(0,2)=242 type(0,8)=250 clear()=250 " + Given.bytes(240) + "type(0,3)=243").refused("type(0,8)=-4").go("type(0,7)=250");
        new Run("8: BAD is ahead of FULL").go(Given.bytes(248) + "type(0,2)=250").refused("type(0,0)=-2 type(0,9)=-2 type(0," + Given.MAX + ")=-2");
    }

    private static void clearing() {
        Run.holds("9: THE TEXT is empty: how many it had: none", "clear()=0 clear()=0 count(4)=0");
        Run.holds("9: THE TEXT is empty: how many it had: all", Given.bytes(248) + "type(0,2)=250 clear()=250 count(4)=0 clear()=0 type(0,8)=8");
        new Run("9: what it had is gone").text("thing;thing;").go("clear()=12 read()=0").text("thing;").go("read()=1 clear()=6 type(" + Calls.packed("thing") + ",5)=5 read()=-15");
        new Run("9: the town stays").text("thing;").go("read()=1 clear()=6 count(0)=1");
    }

    private static void reads(String sentence, String text, int items) {
        new Run("10: " + sentence + " '" + text + "'").text(text).go("read()=" + items + " count(4)=" + text.length() + " status(0)=0 status(1)=0 status(2)=0");
    }

    /** -10 less the FAULT: all stays. */
    private static void fault(String sentence, String text, int place) {
        new Run("10: " + sentence + " '" + text + "'").go(BUSY).text(text).leaves("read()=" + (-10 - place) + " status(0)=0 status(1)=0 status(2)=0");
    }

    private static void tokens() {
        reads("blanks (32) between", "  thing  ;  thing  0  ;  ", 2);
        reads("blanks between: none are needed where a TOKEN ends by itself", "thing;thing0;does0 0 1;", 3);
        fault("a blank within a word parts it", "th ing;", 0);
        fault("words: no blank between two makes them one", "thingthing;", 0);
        fault("only 32 is a blank: 9", "thing\t;", 5);
        fault("only 32 is a blank: 10", "thing;\n", 6);
        fault("only 32 is a blank: 0", "thing;\0", 6);
        fault("only 32 is a blank: 31", "\u001fthing;", 0);
        fault("only 32 is a blank: 33", "thing!;", 5);
        fault("a second figure's number", "people 12;", 7);
        fault("a second figure's number: 0 ahead", "people 03;", 7);
        fault("a second figure's number: of a THING", "thing;thing 00;", 12);
        fault("a second figure's number: no two numbers", "thing;does 00 0;", 11);
        fault("a second figure's number: the last of an ITEM", "hour 0 10;", 7);
        fault("a second figure's number: it is a 9", "people 39;", 7);
        fault("a second figure's number: a third and more", "line 444444;", 5);
    }

    private static void items() {
        reads("an empty one: none", "", 0);
        reads("an empty one of blanks", "        ", 0);
        reads("thing (under none)", "thing;", 1);
        reads("thing p (under p)", "thing;thing 0;thing 1;", 3);
        reads("people n: 1", "people 1;", 1);
        reads("people n: 5", "people 5;", 1);
        reads("hours n: 1", "hours 1;", 1);
        reads("hours n: 5", "hours 5;", 1);
        reads("hour h KIND: the last of both", "hour 3 5;", 1);
        reads("hour h KIND: the first of both", "hour 0 0;", 1);
        reads("line n: 0", "line 0;", 1);
        reads("line n: 4", "line 4;", 1);
        reads("rich p: the last", "rich 2;", 1);
        reads("does p h t: the last of each", "thing;thing;does 2 3 1;", 3);
        reads("need p t n: all HOURS", "thing;need 2 0 4;", 2);
        reads("need p t n: 0", "thing;need 2 0 0;", 2);
        reads("need p t n: 5", "hours 5;thing;need 2 0 5;", 3);
        reads("9 things", NINE, 9);
        reads("a text of just 250 bytes", "people 5;hours 5;line 0;" + " ".repeat(219) + "line 1;", 4);
        fault("each ended by ;: nothing is ended", ";", 0);
        fault("each ended by ;: twice", "thing;;", 6);
        fault("each ended by ;: a word instead", "thing thing;", 6);
        fault("each ended by ;: a number more", "line 4 4;", 7);
        fault("each ended by ;: a number more of a thing", "thing;thing 0 0;", 14);
        fault("a number where an ITEM begins", "3;", 0);
    }

    private static void endsTooEarly() {
        fault("the TEXT's length, if it ends too early: behind a word", "thing", 5);
        fault("the TEXT's length: behind blanks", "thing   ", 8);
        fault("the TEXT's length: behind a number", "line 4", 6);
        fault("the TEXT's length: ahead of the last number", "does 0 0", 8);
        fault("the TEXT's length: ahead of the first number", "need", 4);
        fault("the TEXT's length: a later ITEM", "thing;hour 3 5", 14);
        fault("the TEXT's length: of 250 bytes", "line 0;" + " ".repeat(238) + "thing", 250);
        fault("a word that is none is no early end", "thin", 0);
    }

    private static void words() {
        fault("a word that is none: one letter less", "thin;", 0);
        fault("a word that is none: one letter more", "things;", 0);
        fault("a word that is none: another letter", "thinh;", 0);
        fault("a word that is none: another first letter", "xhing;", 0);
        fault("a word that is none: letters a .. z: a", "thinga;", 0);
        fault("a word that is none: letters a .. z: z", "thingz;", 0);
        fault("a word that is none: an hour of two names", "hourss 4;", 0);
        fault("a word that is none: of one letter", "thing;a;", 6);
        fault("a word that is none: a KIND by name", "hour 0 idle;", 7);
        fault("a word where a number is due", "people thing;", 7);
        fault("a 10th thing at its word", NINE + "thing;", 54);
        fault("a 10th thing at its word: behind blanks, whatever follows", NINE + "  thing 99", 56);
    }

    private static void numbers() {
        fault("a number not as told: people 0", "people 0;", 7);
        fault("a number not as told: people 6", "people 6;", 7);
        fault("a number not as told: hours 0", "hours 0;", 6);
        fault("a number not as told: hours 6", "hours 6;", 6);
        fault("a number not as told: line 5", "line 5;", 5);
        fault("a number not as told: KIND 6", "hour 0 6;", 7);
        fault("a number not as told: need 6", "hours 5;thing;need 0 0 6;", 23);
        fault("a number that is not told", "line;", 4);
        fault("a number that is not told: the second", "hour 0;", 6);
        fault("a number that is not told: the third", "thing;does 0 0;", 14);
        fault("a number not as told: below 0", "line -1;", 5);
    }

    private static void notThereYet() {
        fault("one of THINGS that is not there: none is", "thing 0;", 6);
        fault("one of THINGS that is not there yet: itself", "thing;thing 1;", 12);
        fault("one of THINGS that is not there yet: in a does", "thing;does 0 0 1;thing;", 15);
        fault("one of THINGS that is not there yet: in a need", "thing;need 0 1 0;thing;", 13);
        fault("one of THINGS that is not there: those of the town now are not", "does 0 0 0;", 9);
        fault("one of PEOPLE that is not there: rich", "rich 3;", 5);
        fault("one of PEOPLE that is not there: does", "thing;does 3 0 0;", 11);
        fault("one of PEOPLE that is not there: need", "thing;need 3 0 0;", 11);
        fault("one of PEOPLE that is not there: of fewer people", "people 1;rich 1;", 14);
        fault("one of HOURS that is not there: hour", "hour 4 0;", 5);
        fault("one of HOURS that is not there: does", "thing;does 0 4 0;", 13);
        fault("one of HOURS that is not there: of fewer hours", "hours 1;hour 1 0;", 13);
        reads("one of PEOPLE that is there: of more people", "people 5;rich 4;", 2);
        reads("one of HOURS that is there: of more hours", "hours 5;hour 4 0;", 2);
    }

    private static void behind() {
        String[] hanging = {"thing;does 0 0 0;", "thing;need 0 0 0;", "thing;rich 0;", "thing;hour 0 0;"};
        for (String items : hanging) {
            fault("people behind it (at the word)", items + "people 3;", items.length());
            fault("hours behind it (at the word)", items + "hours 4;", items.length());
            fault("people behind it, whatever is ahead of them", items + "thing;line 4; people", items.length() + 14);
            reads("others behind it", items + "thing;line 4;hour 0 1;rich 0;does 0 0 0;need 0 0 1;", 8);
        }
        reads("people, hours behind a thing, a line, people, hours", "thing;line 3;people 5;hours 5;people 4;hours 4;", 6);
    }

    private static void needs() {
        fault("needs of one of more HOURS than there are (at n): of one THING", "thing;need 0 0 5;", 15);
        fault("needs of more HOURS than there are: of 1", "hours 1;thing;need 0 0 2;", 23);
        fault("needs of more HOURS than there are: of two THINGS", "thing;thing;need 0 0 3;need 0 1 2;", 32);
        fault("needs of more HOURS than there are: 1 more", "thing;thing;need 0 0 4;need 0 1 1;", 32);
        reads("needs of as many HOURS as there are", "thing;thing;need 0 0 3;need 0 1 1;", 4);
        reads("needs of ONE: others need as many", "thing;need 0 0 4;need 1 0 4;need 2 0 4;", 4);
        reads("needs that are told again", "thing;need 0 0 3;need 0 0 4;need 0 0 4;", 4);
    }

    private static void bytesThatBeginNone() {
        fault("a byte that begins none: a great letter", "Thing;", 0);
        fault("a byte that begins none: behind a word", "thing,", 5);
        fault("a byte that begins none: ahead of a", "`", 0);
        fault("a byte that begins none: behind z", "{", 0);
        fault("a byte that begins none: ahead of 0", "line /;", 5);
        fault("a byte that begins none: behind 9, ahead of ;", "line 4:", 6);
        fault("a byte that begins none: behind ;", "line 4<", 6);
        fault("a byte that begins none: 255", "line 4\u00ff", 6);
        fault("a byte that begins none: 128", "\u0080", 0);
        fault("a byte that begins none: within a word", "th\u00e9ng;", 0);
    }

    private static void theFirstFault() {
        fault("the first TOKEN that can not stand there", "thing;people 9;hours 9;", 13);
        fault("the first: what stands ahead of it in its ITEM", "does 9 9 9;", 5);
        fault("the first: an early end behind it does not count", "line 7", 5);
        fault("the first: nothing of the ITEMS ahead of it is taken", "thing;thing;people 1;line 1;x", 28);
    }

    private static void whatIsTaken() {
        String kept = BUSY + "crowd(1,2,1)=1 image(0)=1 town(9,9)=-2 undo()=1 undo()=-3 does(4,4,1)=-1 ";
        new Run("10: it takes the place of THINGS").go(kept).text("thing;").go("read()=1 count(0)=1 at(1)=-2");
        new Run("10: what is not told is as at first: THE LINE").go(kept).text("thing;").go("read()=1 put(1,0,4)=4");
        new Run("10: what is not told is as at first: PEOPLE, HOURS").go(kept).text("thing;").go("read()=1 count(1)=3 count(2)=4");
        new Run("10: what is not told is as at first: KINDS").go(kept).text("hours 5;").go("read()=1 put(0,4,0)=0");
        new Run("10: what is not told is as at first: RICH").go(kept).text("people 5;").go("read()=1 put(2,0,0)=0");
        new Run("10: what is not told is as at first: what is done").go(kept).text("thing;people 5;hours 5;").go("read()=3 does(4,4,0)=-1");
        new Run("10: what is not told is as at first: NEEDS").go(kept).text("thing;thing;people 5;hours 5;").go("read()=4 need(4,1,0)=0");
        new Run("10: what is not told is as at first: told()").go(kept).text("people 5;").go("read()=1 told(4,0)=0");
        new Run("10: nothing may be undone").go(kept).text("thing;does 0 0 0;").go("count(3)=1 read()=2 count(3)=0 undo()=-3 does(0,0,-1)=0");
        new Run("10: all but IMAGES").go(kept).text("thing;").go("read()=1 from(0)=1 count(0)=2 count(1)=5 told(4,0)=40 undo()=1 from(1)=-3");
        new Run("10: all but THE TEXT").go(kept).text("thing;").go("read()=1 count(4)=6 read()=1 clear()=6");
        new Run("10: all but THE FRACTION").go(kept).text("thing;").go("read()=1 part(0)=1 part(1)=2");
        new Run("10: all but STATUS").go(kept).text("thing;").go("read()=1 status(0)=1 status(1)=1 status(2)=0");
        new Run("10: an empty TOWN, too, takes the place").go(kept).go("read()=0 count(0)=0 count(1)=3 count(2)=4 count(3)=0 put(1,0,4)=4 told(2,0)=0");
        new Run("10: all that is told").text("people 5;hours 5;line 0;thing;thing 0;rich 4;hour 4 5;does 4 4 1;need 4 1 5;").go("read()=9 count(0)=2 count(1)=5 count(2)=5 at(1)=0 ")
            .digest(2, 5, 5, 0, 76, -1, 0, 0, 4, 0, 0, 0, 0, 5, -1, -1, -1, -1, -1, 0, 0, 0, -1, -1, -1, -1, -1, 0, 0, 0, -1, -1, -1, -1, -1, 0, 0, 0, -1, -1, -1, -1, -1, 0, 0, 0,
                -1, -1, -1, -1, 1, 0, 5, 0, 0, 1);
        new Run("10: nothing of a TEXT read ahead, or of one with a FAULT, is left").text("thing;thing 0;people 5;hours 5;line 1;rich 4;hour 4 5;does 4 4 1;need 4 1 5;").go("read()=9")
            .text("thing;thing;people 5;rich 3;x").go("read()=-38").text("people 5;hours 5;").go("read()=2")
            .digest(0, 5, 5, 0, 17, 4, 0, 0, 0, 0, 0, 0, -1, -1, -1, -1, -1, 0, -1, -1, -1, -1, -1, 0, -1, -1, -1, -1, -1, 0, -1, -1, -1, -1, -1, 0, -1, -1, -1, -1, -1, 0, 0, 1);
        new Run("10: what is told last counts").text("line 1;line 2;people 1;people 2;hours 2;thing;need 0 0 2;need 0 0 1;does 0 0 0;hour 1 4;hour 1 3;rich 1;rich 0;thing;does 0 0 1;")
            .go("read()=15 put(1,0,4)=2 count(1)=2 need(0,0,0)=1 put(0,1,0)=3 put(2,0,1)=0 does(0,0,0)=1");
        new Run("10: a FAULT is refused for no reason: STATUS stays").text("x").go("read()=-10 status(0)=0 status(1)=0 status(2)=0");
    }
}
