/** The edges of promises 1 to 5: a new object, THE TEXT, its FAULT, what can be LAID. */
public final class TextEdgesTest extends Edges {
    public static void main(String[] args) {
        newObject();
        write();
        wipe();
        faultOfItems();
        faultOfNumbers();
        faultOfTasks();
        faultOfTheRest();
        faultPlace();
        lay();
        layAnew();
        layOfTheLastTold();
        due.end();
    }

    private static void newObject() {
        edge("1 as told: day 0, nobody a FRIEND, nothing BROUGHT, SEEN, UNDONE, KEPT, no letter of THE TEXT", FIRST,
            "count(2)=2 count(3)=0 count(4)=0 count(5)=30 count(6)=0 count(7)=0 count(8)=0 count(9)=0 count(10)=0"
            + " count(11)=0");
        refused("1 nothing to undo, nothing kept", FIRST, "", "undo()=NO back()=NO");
        edge("1 nothing SEEN, no letter, no fault", FIRST, "forget()=0 wipe()=0 fault()=NONE");
        refused("1 an empty TEXT can not be LAID", FIRST, "", "lay()=NO");
        due.promise("1 at first as of the text that the document has");
        Told laid = Told.laid(due, "t0,3,0,1;t1,5,1,2;t3,4,2,3;t4,2,5,3;t2,9,4,5;t0,6,3,4;"
            + "h0,3;h1,4;h1,6;h2,5;h4,2;h3,7;h0,1;a0;a5;c30;l28;");
        laid.calls("wipe()=103");
        due.texts("of a new object", Told.laid(due, FIRST).portraits().toString(), laid.portraits().toString());
        edge("1 all in 28 days", FIRST, "suggest(2)=3 suggest(4)=4 handUp(2)=9 handUp(4)=28 count(7)=0");
        edge("1 not in 29 days", FIRST, "suggest(2)=3 handUp(2)=9 handUp(0)=16 handUp(5)=29 count(7)=1");
    }

    private static void write() {
        only("2 a letter is 32 to 126", TWO, "befriend(0)=17 keep()=1 see(0,1)=1", "write(#)", 32, 126);
        edge("2 how long it is", FIRST, "write(32)=1 write(126)=2 write(48)=3 count(11)=3");
        due.promise("2 200 letters at most");
        Told full = new Told(due);
        full.writes("t".repeat(199));
        full.calls("count(11)=199 write(59)=200 count(11)=200 write(59)=FULL write(59)=FULL count(11)=200");
        full.calls("write(31)=BAD write(127)=BAD count(11)=200 wipe()=200 write(59)=1");
        due.promise("2 FULL: nothing changes");
        Told right = new Told(due);
        right.writes("c5;".repeat(63) + "t0,1,5,0;h0");
        right.calls("count(11)=200 write(59)=FULL write(44)=FULL fault()=198 wipe()=200");
        right.writes("c5;".repeat(63) + "t00,1,5,0;");
        right.calls("count(11)=199 write(97)=200 write(48)=FULL fault()=199 lay()=NO");
        edge("2 what is LAID does not change by it", ONE, "write(97)=13 write(57)=14 count(0)=1 count(2)=1 ride(0)=1");
    }

    private static void wipe() {
        edge("3 an empty TEXT was 0 long", FIRST, "wipe()=0 wipe()=0 count(11)=0");
        edge("3 how long it was", ONE, "wipe()=12 count(11)=0 wipe()=0");
        edge("3 an empty TEXT has no FAULT and can not be LAID", ONE,
            "ride(0)=1 wipe()=12 fault()=NONE lay()=NO count(3)=1");
        edge("3 what is LAID stays", ONE,
            "ride(0)=1 keep()=1 see(0,1)=1 wipe()=12 count(0)=1 count(3)=1 count(8)=1 count(9)=1 count(10)=1");
        due.promise("3 a TEXT of 200 letters");
        Told full = new Told(due);
        full.writes("x".repeat(200));
        full.calls("wipe()=200 count(11)=0 fault()=NONE write(120)=1 fault()=0");
    }

    /** The fault of a text; and in a text with one, what is laid stays. */
    private static void faultIs(String text, int place) {
        Told told = new Told(due);
        told.writes(text);
        due.answer("fault() of " + text, told.answerTo("fault()"), place);
        if (place != NONE) {
            told.calls("lay()=NO count(0)=6");
        }
    }

    /** None of the texts has a fault. */
    private static void right(String sentence, String... texts) {
        due.promise("4 fault: " + sentence);
        for (String text : texts) {
            faultIs(text, NONE);
            faultIs("t0,1,5,0;" + text, NONE);
        }
    }

    /** Each of the texts is an item that is not so, wherever it stands. */
    private static void wrong(String sentence, String... texts) {
        due.promise("4 fault: " + sentence);
        for (String text : texts) {
            faultIs(text, 0);
            faultIs("t0,1,5,0;a0;" + text, 12);
            faultIs("h4,20;" + text + "c5;", 6);
        }
    }

    private static void faultOfItems() {
        right("items in any order", "h0,0;c0;l1;t0,1,5,0;a0;", "l1;t0,1,5,0;c0;a0;h0,0;t0,1,5,0;", "");
        wrong("each a letter: t, h, a, c, l", "x", "b1;", "T0,1,5,0;", "H0,1;", "A0;", "C5;", "L5;", ";", " ", "0",
            "0;", ",", "s0,1,5,0;", "u0,1,5,0;", "g0,1;", "i0,1;", "d5;", "k5;", "m5;", "~");
        wrong("one behind the other", " t0,1,5,0;", "t 0,1,5,0;", "t0,1,5,0 ;", ",c5;");
        wrong("numbers parted by ,", "t0;1;5;0;", "t0.1.5.0;", "h0-1;", "h0 1;", "h0:1;", "h0+1;");
        wrong("a ; behind the last one", "t0,1,5,0", "t0,1,5,0,", "t0,1,5,0:", "h0,1", "h0,1,", "a0", "a0,", "c5",
            "c5:", "l5", "l5,");
        wrong("as many numbers as are told", "t0,1,5;", "t0,1,5,0,0;", "h0;", "h0,1,2;", "a0,0;", "c1,2;", "l1,1;",
            "t;", "h;", "a;", "c;", "l;", "t", "h", "a", "c", "l");
    }

    private static void faultOfNumbers() {
        right("numbers of one figure or two", "t0,1,5,0;", "t00,01,05,00;", "h0,1;", "h00,01;", "c7;", "c07;", "l7;",
            "l07;");
        wrong("a number of no figure", "t,1,5,0;", "t0,,5,0;", "t0,1,,0;", "t0,1,5,;", "h,1;", "h0,;", "a;", "c;",
            "l;");
        wrong("a number of three figures", "t000,1,5,0;", "t0,001,5,0;", "t0,1,005,0;", "t0,1,5,000;", "h000,1;",
            "h0,001;", "a000;", "c007;", "c100;", "l007;", "l100;");
        wrong("a number is of figures", "t-1,1,5,0;", "t0,+1,5,0;", "t0,1,x,0;", "h0,1x;", "c-1;", "c1 ;", "l/;", "l:;",
            "c5/;", "c5:;");
    }

    private static void faultOfTasks() {
        right("KIND 0 to 4", "t0,1,5,0;", "t1,1,5,0;", "t2,1,5,0;", "t3,1,5,0;", "t4,1,5,0;");
        wrong("KIND 5 is too large", "t5,1,5,0;", "t9,1,5,0;", "t10,1,5,0;", "t99,1,5,0;");
        right("0 to 9 days", "t0,0,5,0;", "t0,9,5,0;");
        wrong("10 days are too many", "t0,10,5,0;", "t0,99,5,0;");
        right("help of KIND 0 to 4, and 5", "t0,1,0,0;", "t0,1,4,0;", "t0,1,5,0;");
        wrong("help of KIND 6 is too large", "t0,1,6,0;", "t0,1,10,0;", "t0,1,99,0;");
        right("N 0 to 7, be there such a TASK or not", "t0,1,5,0;", "t0,1,5,1;", "t0,1,5,7;");
        wrong("N 8 is too large", "t0,1,5,8;", "t0,1,5,10;", "t0,1,5,99;");
        due.promise("4 fault: 8 TASKS at most");
        faultIs("t0,1,5,7;".repeat(8), NONE);
        faultIs("t0,1,5,7;".repeat(9), 72);
        faultIs("t0,1,5,7;".repeat(8) + "c5;t0,1,5,7;", 75);
        faultIs("t0,1,5,7;".repeat(8) + "a7;h0,1;", NONE);
    }

    private static void faultOfTheRest() {
        right("a HELPER of KIND 0 to 4", "h0,1;", "h4,1;");
        wrong("a HELPER of KIND 5 is too large", "h5,1;", "h9,1;", "h10,1;", "h99,1;");
        right("0 to 20 CRUMBS", "h0,0;", "h0,20;");
        wrong("21 CRUMBS are too many", "h0,21;", "h0,99;");
        due.promise("4 fault: 7 HELPERS at most");
        faultIs(SEVEN_HELPERS, NONE);
        faultIs("h0,1;".repeat(8), 35);
        faultIs(SEVEN_HELPERS + "t0,1,5,0;h0,1;", 44);
        faultIs(SEVEN_HELPERS + "t0,1,5,0;a0;", NONE);
        due.promise("4 fault: a TASK asked is told ahead");
        faultIs("a0;t0,1,5,0;", 0);
        faultIs("t0,1,5,0;a1;t0,1,5,0;", 9);
        faultIs("t0,1,5,0;t0,1,5,0;a1;a2;", 21);
        faultIs("t0,1,5,0;t0,1,5,0;a1;a0;", NONE);
        faultIs(EIGHT + "a7;", NONE);
        faultIs(EIGHT + "a8;", 72);
        faultIs("h0,1;a0;", 5);
        due.promise("4 fault: no matter if told once more");
        faultIs("t0,1,5,0;a0;a0;a00;", NONE);
        right("0 to 99 CRUMBS there", "c0;", "c99;");
        right("1 to 60 days", "l1;", "l60;");
        wrong("0 days are too few", "l0;", "l00;");
        wrong("61 days are too many", "l61;", "l99;");
        right("of several such the last one counts, and none is a FAULT", "c0;c99;c5;", "l1;l60;l5;");
        wrong("each of several such must be so", "l0;l5;", "l61;l5;", "c100;c5;");
    }

    private static void faultPlace() {
        due.promise("4 fault: the first letter of the item, not the letter that is wrong");
        faultIs("t0,1,5,9;", 0);
        faultIs("c5;l5;t0,1,5,9;", 6);
        faultIs("t0,1,5,0;h0,1", 9);
        due.promise("4 fault: the first item of several that are not so");
        faultIs("c5;l0;l61;x", 3);
        faultIs("c5;h5,0;a9;c1;x", 3);
        due.promise("4 fault: none");
        faultIs("t0,1,5,0;", NONE);
        due.promise("4 fault: of 200 letters");
        faultIs("c5;".repeat(66) + "c5", 198);
        faultIs("c5;".repeat(63) + "t00,01,5,0;", NONE);
        edge("4 fault changes nothing", FIRST,
            "befriend(0)=27 write(104)=1 fault()=0 fault()=0 count(11)=1 count(0)=6 count(1)=7 count(2)=2 count(4)=1"
            + " count(5)=27 count(9)=1");
    }

    private static void lay() {
        String brought = "befriend(0)=17 keep()=1 ride(0)=1 see(1,1)=1 wipe()=31 ";
        refused("5 an empty TEXT is not LAID: NO, and nothing changes", TWO, brought, "lay()=NO");
        refused("5 a TEXT with a FAULT is not LAID", TWO, brought + "write(120)=1 write(59)=2", "lay()=NO");
        due.promise("5 LAID is a TEXT of a TASK at least");
        laysAs("c5;l9;h0,1;", FeatherTasks.NO);
        laysAs("t0,1,5,0;", 1);
        due.promise("5 each N being such as there is");
        laysAs("t0,1,5,0;t0,1,5,1;", 2);
        laysAs("t0,1,5,1;t0,1,5,0;", 2);
        laysAs("t0,1,5,1;", FeatherTasks.NO);
        laysAs("t0,1,5,0;t0,1,5,2;", FeatherTasks.NO);
        laysAs("t0,1,5,2;t0,1,5,0;", FeatherTasks.NO);
        laysAs("t0,1,5,7;".repeat(7), FeatherTasks.NO);
        laysAs("t0,1,5,7;".repeat(8), 8);
        due.promise("5 a FAULT at the last letter is one");
        laysAs("t0,1,5,0;c5", FeatherTasks.NO);
        due.promise("5 the most HELPERS, or none");
        laysAs("t0,1,5,0;" + SEVEN_HELPERS, 1);
        laysAs("t0,1,5,0;", 1);
    }

    private static void laysAs(String text, int want) {
        Told told = new Told(due);
        told.calls("befriend(6)=29");
        told.writes(text);
        due.answer("lay() of " + text, told.answerTo("lay()"), want);
        if (want < 0) {
            told.calls("count(0)=6 count(1)=7 count(4)=1 count(5)=29 count(9)=1 ride(5)=NO befriend(5)=22 ride(5)=6");
        } else {
            told.calls("count(0)=" + want + " count(4)=0 count(9)=0 lay()=" + want);
        }
    }

    private static void layAnew() {
        edge("5 day 0, and no HEAD LOST", "t0,1,5,0;t0,9,5,1;a0;a1;l5;",
            "ride(1)=9 count(7)=1 lay()=2 count(6)=0 count(7)=0 ride(0)=1");
        edge("5 nobody a FRIEND, nobody USED", TWO,
            "befriend(0)=17 befriend(1)=13 ride(0)=1 lay()=2 count(4)=0 count(5)=20 helper(0,2)=0 helper(0,3)=0"
            + " helper(1,2)=0 befriend(0)=17 ride(0)=1");
        edge("5 nothing BROUGHT, nothing ASKED but what is told", TWO,
            "befriend(0)=17 ride(0)=1 lay()=2 count(2)=1 count(3)=0 task(0,4)=1 task(0,5)=0 task(1,4)=0 suggest(1)=2"
            + " lay()=2 task(1,4)=0");
        edge("5 nothing SEEN", ONE, "see(0,2)=1 rows(0)=0 lay()=1 count(8)=0 rows(0)=1 forget()=0");
        edge("5 nothing UNDONE", ONE, "ride(0)=1 lay()=1 count(9)=0 undo()=NO");
        edge("5 nothing KEPT", ONE, "keep()=1 keep()=2 lay()=1 count(10)=0 back()=NO keep()=1");
        edge("5 THE TEXT stays", ONE, "lay()=1 count(11)=12 fault()=NONE wipe()=12");
        edge("5 of fewer TASKS than there were", ONE, "task(1,0)=BAD forWhat(1)=BAD mayCome()=1 helper(0,0)=BAD");
        edge("5 HELPERS of other KINDS than there were ahead", "t0,1,1,0;t0,1,0,1;a0;a1;h2,0;h0,0;",
            "lay()=2 befriend(0)=20 help(1)=NO befriend(1)=20 help(0)=NO help(1)=2 lay()=2 befriend(0)=20 help(1)=NO");
    }

    private static void layOfTheLastTold() {
        edge("5 20 CRUMBS without", "t0,1,5,0;h0,20;h1,1;", "count(5)=20 befriend(0)=0 befriend(1)=NO");
        edge("5 0 CRUMBS, of several the last one", "c99;t0,1,5,0;h0,0;h1,1;c0;",
            "count(5)=0 befriend(1)=NO befriend(0)=0");
        edge("5 99 CRUMBS, of several the last one", "c0;t0,1,5,0;h0,20;c99;",
            "count(5)=99 befriend(0)=79 undo()=0 count(5)=99");
        String thirty = "t0,9,5,0;t0,9,5,1;t0,9,5,2;t0,3,5,3;t0,1,5,4;a0;a1;a2;a3;";
        edge("5 30 days without", thirty, "well(0)=24 suggest(4)=5 well(0)=0");
        edge("5 of several the last one counts: 31 days", "l1;" + thirty + "l60;l31;", "suggest(4)=5 well(0)=120");
        edge("5 of several the last one counts: 29 days", thirty + "l60;l1;l29;", "well(0)=0");
        edge("5 told more than once it is ASKED no more than that", ONE + "a0;a0;", "count(2)=1 ride(0)=1 count(2)=0");
        edge("5 nothing is told to be ASKED", "t0,1,5,0;", "count(2)=0 task(0,4)=0 help(0)=NO");
        edge("5 all are told to be ASKED", EIGHT + ALL_ASKED, "count(2)=8 task(7,4)=1 help(7)=0");
    }
}
