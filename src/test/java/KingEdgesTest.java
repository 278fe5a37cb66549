/** The edges of promises 23 to 27: GROOMS, KINGS, what is KEPT; and which of two answers comes first. */
public final class KingEdgesTest extends Edges {
    public static void main(String[] args) {
        grooms();
        king();
        kingDraws();
        keep();
        back();
        count();
        orderOfAnswers();
        lastCalls();
        due.end();
    }

    private static void grooms() {
        String oneTooMany = "t0,1,5,0;t0,1,5,1;a0;l1;";
        only("23 x is 0 to 10", TWO, "", "grooms(#,0)", 0, 10);
        only("23 part is 0 or 1", TWO, "", "grooms(5,#)", 0, 1);
        edge("23 by 0 of ten none is SUGGESTED", oneTooMany, "grooms(0,0)=1 grooms(0,1)=1");
        edge("23 by 10 of ten each is", oneTooMany, "grooms(10,0)=0 grooms(10,1)=1");
        edge("23 by 1 of ten and by 9", oneTooMany, "grooms(1,0)=9 grooms(1,1)=10 grooms(9,0)=1 grooms(9,1)=10");
        edge("23 in lowest terms", oneTooMany, "grooms(2,0)=4 grooms(2,1)=5 grooms(5,0)=1 grooms(5,1)=2");
        edge("23 in lowest terms: 0 by 1", "t0,2,5,0;t0,1,5,1;a0;l1;", "grooms(5,0)=0 grooms(5,1)=1");
        edge("23 in lowest terms: 1 by 1", "t0,1,5,0;t0,1,5,1;a0;", "grooms(5,0)=1 grooms(5,1)=1");
        edge("23 none can be SUGGESTED: as it is", ONE + "l1;",
            "grooms(5,0)=1 grooms(5,1)=1 ride(0)=1 grooms(5,0)=1 grooms(5,1)=1");
        edge("23 the HEAD is LOST: no chance", "t0,1,5,0;t0,0,5,1;a0;l2;",
            "handUp(0)=3 grooms(5,0)=0 grooms(5,1)=1 grooms(0,0)=0");
        edge("23 each for itself: all eight", EIGHT + "l7;",
            "grooms(1,0)=99999999 grooms(1,1)=100000000 grooms(5,0)=255 grooms(5,1)=256 grooms(10,0)=0 grooms(10,1)=1");
        edge("23 each for itself: two", "t0,1,5,0;t0,1,5,1;t0,1,5,2;a0;l2;",
            "grooms(1,0)=99 grooms(1,1)=100 grooms(5,0)=3 grooms(5,1)=4");
        edge("23 what may come can be SUGGESTED too", "t0,1,5,1;t0,1,5,1;a0;l2;", "grooms(5,0)=1 grooms(5,1)=1");
        edge("23 with FRIENDS as they are", "t0,1,0,0;t0,1,5,1;a0;h0,0;",
            "grooms(5,0)=0 grooms(5,1)=1 befriend(0)=20 grooms(5,0)=1 grooms(5,1)=1");
        edge("23 with FRIENDS as they are: one is too few for two", "t0,1,0,0;t0,1,0,1;a0;h0,0;h0,0;",
            "befriend(0)=20 grooms(5,0)=1 grooms(5,1)=2");
        edge("23 nothing is SUGGESTED by it", oneTooMany, "grooms(10,0)=0 count(2)=1 count(9)=0 task(1,4)=0");
    }

    private static void king() {
        String byDays = "t0,0,5,0;t0,1,5,1;t0,2,5,2;t0,3,5,3;t0,4,5,4;t0,5,5,5;t0,6,5,6;t0,7,5,7;" + ALL_ASKED;
        only("24 z is 0 to 9999", TWO, "", "king(#,3,0)", 0, 9999);
        only("24 n is 1 to 40", TWO, "", "king(3,#,1)", 1, 40);
        only("24 what is 0 to 2", TWO, "", "king(3,3,#)", 0, 2);
        edge("24 TASK DRAW modulo as many as there are: z 0", byDays,
            "king(0,1,0)=1 king(0,1,1)=0 king(0,2,0)=2 king(0,2,1)=7");
        edge("24 TASK DRAW modulo as many as there are: z 1", byDays,
            "king(1,1,1)=1 king(1,2,1)=3 king(1,3,0)=2 king(1,3,1)=3");
        edge("24 x times x is more than 32 bits can hold: z 9999", byDays,
            "king(9999,1,1)=3 king(9999,2,1)=5 king(9999,4,1)=11 king(9999,4,0)=4 king(9999,6,0)=4 king(9999,7,0)=5"
            + " king(9999,7,1)=15");
        edge("24 all 40 steps: the last one counts", byDays,
            "king(180,39,0)=7 king(180,40,0)=8 king(180,39,1)=25 king(180,40,1)=28");
        edge("24 one step", ONE, "king(7,1,0)=1 king(7,1,1)=1 king(7,1,2)=0");
        edge("24 1 if the HEAD is LOST, behind day L", byDays + "l27;", "king(180,39,2)=0 king(180,40,2)=1");
        edge("24 0 on day L", byDays + "l28;", "king(180,40,2)=0 king(180,40,1)=28");
        edge("24 when the HEAD is LOST nothing more is BROUGHT", "t0,3,5,0;t0,1,5,1;a0;a1;l2;",
            "king(0,40,0)=1 king(0,40,1)=3 king(0,40,2)=1");
        edge("24 it is LOST now", "t0,3,5,0;t0,1,5,1;a0;a1;l2;",
            "ride(0)=3 king(0,40,0)=1 king(0,40,1)=3 king(0,40,2)=1");
    }

    /** The draws of king 0 are 0, 20743, 5149, 18739: by 8, cut, these are 0, 2592, 643, 2342. */
    private static void kingDraws() {
        edge("24 no HELPERS: the TASK is SUGGESTED at once", "t0,3,5,0;", "king(0,1,0)=0 king(0,2,0)=1 king(0,2,1)=3");
        edge("24 a HELPER is made a FRIEND ahead of that", "t0,3,5,0;h0,5;", "king(0,2,0)=0 king(0,3,0)=1");
        edge("24 a HELPER that can not be paid is not made a FRIEND", "t0,3,5,0;h0,5;c4;",
            "king(0,1,0)=0 king(0,2,0)=1");
        edge("24 a HELPER that is a FRIEND is not made one again", "t0,3,5,0;h0,5;",
            "befriend(0)=15 king(0,1,0)=0 king(0,2,0)=1");
        edge("24 for all the CRUMBS, and then for none", "t0,3,0,0;h0,5;h0,1;a0;c5;",
            "king(0,1,0)=0 king(0,2,0)=1 king(0,2,1)=3");
        edge("24 HELPER (DRAW by 8, cut) modulo as many", "t0,3,0,0;h1,0;h0,0;a0;", "king(0,3,0)=0 king(0,4,0)=1");
        edge("24 HELPER modulo as many: 2592 of seven is 2", "t0,3,4,0;a0;h0,0;h0,0;h4,0;h0,0;h0,0;h0,0;h0,0;",
            "king(0,2,0)=0 king(0,3,0)=1");
        edge("24 HELPER modulo as many: 643 of seven is 6", "t0,3,4,0;a0;h0,0;h0,0;h0,0;h0,0;h0,0;h0,0;h4,0;",
            "king(0,3,0)=0 king(0,4,0)=1");
        edge("24 HELPER modulo as many: 2342 of seven is 4", "t0,3,4,0;a0;h0,0;h0,0;h0,0;h0,0;h4,0;h0,0;h0,0;",
            "king(0,4,0)=0 king(0,5,0)=1");
        edge("24 a TASK that can not be SUGGESTED: nothing", "t0,3,0,0;a0;",
            "king(0,40,0)=0 king(0,40,1)=0 king(0,40,2)=0");
        edge("24 those BROUGHT already count", "t0,1,5,0;t0,1,5,1;a0;", "ride(0)=1 king(0,1,0)=1 king(0,1,1)=1");
        edge("24 nothing is done by it", TWO,
            "king(0,40,0)=2 count(2)=1 count(3)=0 count(4)=0 count(5)=20 count(6)=0 count(9)=0");
    }

    private static void keep() {
        edge("25 2 at most", TWO, "keep()=1 keep()=2 keep()=FULL count(10)=2 keep()=FULL");
        refused("25 FULL: nothing changes", TWO, "befriend(0)=17 keep()=1 ride(0)=1 keep()=2 suggest(1)=NO",
            "keep()=FULL");
        refused("25 FULL: nor is another one KEPT then", TWO, "keep()=1 keep()=2 befriend(0)=17 ride(0)=1",
            "keep()=FULL");
        edge("25 there is room again by back()", TWO, "keep()=1 keep()=2 back()=1 keep()=2 keep()=FULL");
        edge("25 what can be UNDONE stays", TWO, "befriend(0)=17 keep()=1 count(9)=1 undo()=0");
        edge("25 when the HEAD is LOST", "t0,2,5,0;a0;l1;",
            "keep()=1 ride(0)=2 keep()=2 back()=1 count(7)=1 back()=0 count(7)=0");
    }

    private static void back() {
        refused("26 NO: nothing is KEPT", TWO, "befriend(0)=17", "back()=NO");
        refused("26 NO: it is KEPT no more", TWO, "keep()=1 back()=0 befriend(0)=17", "back()=NO");
        refused("26 NO: behind lay()", TWO, "keep()=1 lay()=2", "back()=NO");
        edge("26 as KEPT last", TWO,
            "keep()=1 befriend(0)=17 keep()=2 ride(0)=1 back()=1 count(3)=0 count(4)=1 back()=0 count(4)=0"
            + " count(5)=20 back()=NO");
        edge("26 nothing is UNDONE then", TWO,
            "befriend(0)=17 keep()=1 ride(0)=1 count(9)=2 back()=0 count(9)=0 undo()=NO ride(0)=1 count(9)=1");
        edge("26 those USED are so again, those that were not are not",
            "t0,1,0,0;t0,1,0,1;t0,1,0,2;a0;a1;a2;h0,0;h1,0;h0,0;h0,0;",
            "befriend(0)=20 befriend(1)=20 befriend(2)=20 ride(0)=1 keep()=1 ride(1)=2 befriend(3)=20 back()=0"
            + " helper(0,3)=1 helper(1,3)=0 helper(2,3)=0 helper(3,2)=0 help(1)=4 ride(1)=2 keep()=1 back()=0"
            + " helper(0,3)=1 helper(2,3)=1");
        edge("26 what is SEEN stays", TWO, "see(0,2)=1 keep()=1 see(1,1)=2 back()=0 count(8)=2 forget()=2");
        edge("26 what was SEEN then is not SEEN again", TWO, "see(0,2)=1 keep()=1 forget()=1 back()=0 count(8)=0");
        edge("26 THE TEXT stays", TWO, "keep()=1 write(120)=32 back()=0 count(11)=32 fault()=31 wipe()=32");
        edge("26 all as it stands: eight TASKS, seven HELPERS", EIGHT + ALL_ASKED + SEVEN_HELPERS + "c99;",
            "befriend(0)=98 befriend(6)=97 handUp(0)=3 handUp(7)=6 keep()=1 undo()=3 undo()=2 undo()=1 back()=0"
            + " count(2)=6 count(3)=2 count(4)=2 count(5)=97 count(6)=6 task(7,5)=1 task(0,5)=1 helper(6,2)=1"
            + " helper(0,2)=1 helper(3,2)=0");
    }

    private static void count() {
        only("27 what is 0 to 11", TWO, "befriend(0)=17 keep()=1", "count(#)", 0, 11);
        edge("27 nothing there", "t0,1,5,0;c0;",
            "wipe()=12 count(0)=1 count(1)=0 count(2)=0 count(3)=0 count(4)=0 count(5)=0 count(6)=0 count(7)=0"
            + " count(8)=0 count(9)=0 count(10)=0 count(11)=0");
        edge("27 FRIENDS not USED", TWO, "befriend(0)=17 befriend(1)=13 count(4)=2 ride(0)=1 count(4)=1");
        edge("27 ASKED, not BROUGHT", TWO,
            "count(2)=1 suggest(1)=2 count(2)=2 handUp(1)=5 count(2)=1 count(3)=1 handUp(0)=8 count(2)=0 count(3)=2");
    }

    private static void lastCalls() {
        due.promise("an object is used for 512 calls: the last ones are answered as the first");
        Told told = new Told(due);
        for (int turn = 0; turn < 127; turn++) {
            told.calls("befriend(0)=27 ride(0)=3 undo()=1 undo()=0");
        }
        told.calls("befriend(0)=27 ride(0)=3 step(5)=0 count(9)=2");
    }

    /** Of several the first of BAD, NO, NONE, FULL. */
    private static void orderOfAnswers() {
        due.promise("BAD ahead of FULL: write");
        Told full = new Told(due);
        full.writes("c5;".repeat(66) + "c5");
        full.calls("write(31)=BAD write(127)=BAD write(59)=FULL count(11)=200");
        String six = "see(0,1)=1 see(0,1)=2 see(0,1)=3 see(0,1)=4 see(0,1)=5 see(0,1)=6";
        refused("BAD ahead of FULL: see", TWO, six,
            "see(2,1)=BAD see(0,0)=BAD see(0,9)=BAD see(-1,1)=BAD see(0,1)=FULL");
        refused("BAD ahead of NO: when the HEAD is LOST", "t0,2,5,0;a0;l1;", "ride(0)=2",
            "ride(1)=BAD suggest(1)=BAD handUp(1)=BAD help(1)=BAD ride(-1)=BAD suggest(-1)=BAD handUp(-1)=BAD"
            + " help(-1)=BAD");
        refused("BAD ahead of NO: no CRUMBS", "t0,1,5,0;h0,1;c0;", "",
            "befriend(1)=BAD befriend(-1)=BAD befriend(0)=NO");
        refused("BAD ahead of NO: he is a FRIEND", TWO, "befriend(0)=17",
            "worth(0,2)=BAD worth(0,-1)=BAD worth(2,0)=BAD worth(0,1)=NO");
        refused("BAD ahead of NO: BROUGHT", ONE, "ride(0)=1", "forWhat(1)=BAD forWhat(-1)=BAD forWhat(0)=NO");
        refused("BAD ahead of NONE", "t0,1,0,0;a0;h1,1;", "",
            "well(9)=BAD well(-1)=BAD rows(9)=BAD rows(-1)=BAD fewest(2)=BAD fewest(-1)=BAD worth(0,2)=BAD"
            + " worth(1,1)=BAD worth(0,1)=NONE fewest(1)=NONE well(1)=NONE rows(1)=NONE");
        refused("NO ahead of NONE: worth", "t0,1,0,0;a0;h1,1;", "befriend(0)=19", "worth(0,1)=NO");
        refused("BAD, whichever of the numbers it is", TWO, "befriend(0)=17",
            "task(2,0)=BAD task(0,7)=BAD task(2,7)=BAD helper(2,0)=BAD helper(0,4)=BAD helper(2,4)=BAD see(2,9)=BAD"
            + " grooms(11,0)=BAD grooms(0,2)=BAD grooms(11,2)=BAD king(10000,1,0)=BAD king(0,41,0)=BAD"
            + " king(0,1,3)=BAD king(-1,0,3)=BAD worth(2,2)=BAD");
    }
}
