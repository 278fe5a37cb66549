/** The edges of promises 14 to 22: what may come, rows WELL, what is SEEN and whom it is for. */
public final class RowEdgesTest extends Edges {
    public static void main(String[] args) {
        mayCome();
        well();
        wellEnds();
        fewest();
        step();
        worth();
        see();
        forget();
        rows();
        forWhat();
        due.end();
    }

    private static void mayCome() {
        edge("14 nothing ASKED: none", "t0,1,5,1;t0,1,5,0;", "mayCome()=0");
        edge("14 all BROUGHT: none", ONE, "ride(0)=1 mayCome()=0");
        edge("14 all eight", EIGHT + ALL_ASKED, "mayCome()=255 ride(7)=1 mayCome()=127");
        edge("14 N that is itself", "t0,1,5,0;t0,1,5,0;a0;", "mayCome()=1");
        String chain = "t0,1,5,0;t0,1,5,0;t0,1,5,1;t0,1,5,2;t0,1,5,3;t0,1,5,4;t0,1,5,5;t0,1,5,6;";
        edge("14 and so on, eight long", chain + "a7;", "mayCome()=255");
        edge("14 and so on, one long", chain + "a1;", "mayCome()=3");
        edge("14 and so on, in a ring", "t0,1,5,1;t0,1,5,2;t0,1,5,0;a1;", "mayCome()=7 ride(1)=1 mayCome()=5");
        edge("14 not behind one that is BROUGHT", "t0,1,5,1;t0,1,5,2;t0,1,5,2;a0;a1;",
            "mayCome()=7 handUp(1)=3 mayCome()=1");
        edge("14 not behind one that is HANDED UP", "t0,1,5,1;t0,1,5,1;a0;", "handUp(0)=3 mayCome()=0");
        edge("14 when the HEAD is LOST too", "t0,2,5,1;t0,1,5,2;t0,1,5,2;a0;l1;", "ride(0)=2 count(7)=1 mayCome()=6");
    }

    private static void well() {
        only("15 k is 0 to 8", TWO, "", "well(#)", 0, 8);
        edge("15 0: there is none", TWO, "well(0)=0 well(1)=NONE well(8)=NONE");
        edge("15 NONE: there are not so many", ONE, "well(0)=1 well(1)=0 well(2)=NONE well(8)=NONE");
        edge("15 a row of eight", EIGHT + ALL_ASKED, "well(0)=40320 well(1)=0 well(7)=6 well(8)=7 well(9)=BAD");
        edge("15 a row of seven", EIGHT + ALL_ASKED, "ride(3)=1 well(0)=5040 well(7)=7 well(8)=NONE");
        edge("15 nothing is ASKED: one row, of no rides", "t0,1,5,0;", "well(0)=1 well(1)=NONE");
        edge("15 all is BROUGHT: one row, of no rides", ONE, "ride(0)=1 well(0)=1 well(1)=NONE");
        edge("15 the HEAD is LOST: none, though all is BROUGHT", "t0,2,5,0;a0;l1;",
            "well(0)=0 ride(0)=2 well(0)=0 well(1)=NONE");
        edge("15 the HEAD is LOST: none, though all is DONE", "t0,1,5,0;t2,0,5,1;a0;a1;l2;",
            "handUp(0)=3 well(0)=0 well(1)=NONE");
        edge("15 the first: by its first TASK, then its second", "t0,1,5,2;t0,1,5,1;t0,1,5,0;t0,1,5,1;a3;a2;",
            "well(0)=6 well(1)=2 well(2)=0 well(3)=3 well(4)=1 well(5)=NONE");
        edge("15 of no TASK that is neither ASKED nor may come", "t0,1,5,0;t0,1,5,1;a1;",
            "well(0)=1 well(1)=1 well(2)=NONE");
    }

    private static void wellEnds() {
        String three = "t0,1,5,0;t0,1,5,1;t0,1,5,2;a0;a1;a2;";
        edge("15 on day L it is WELL", three + "l3;", "well(0)=6 well(1)=0 well(2)=1 well(3)=2 well(4)=NONE");
        edge("15 behind day L it is not", three + "l2;", "well(0)=0 well(1)=NONE");
        edge("15 on day 60 it is WELL", "t0,9,5,0;t0,1,5,1;a0;a1;l29;",
            "handUp(0)=19 well(0)=1 lay()=2 handUp(1)=3 well(0)=1");
        edge("15 with FRIENDS as they are: none", TWO,
            "well(0)=0 befriend(0)=17 well(0)=1 well(1)=0 well(2)=1 well(3)=NONE");
        edge("15 with FRIENDS as they are: each is USED once", "t0,1,0,1;t0,1,0,1;a0;h0,0;h0,0;",
            "befriend(0)=20 well(0)=0 befriend(1)=20 well(0)=1");
        edge("15 the lowest helps: who is left is told by the order",
            "t0,1,0,0;t3,1,5,1;t0,1,1,2;a0;a1;a2;h0,0;h1,0;h0,0;",
            "befriend(0)=20 befriend(1)=20 befriend(2)=20 well(0)=5 well(1)=0 well(2)=2 well(3)=1 step(0)=1 step(1)=2"
            + " step(2)=2");
        edge("15 those that are USED do not help", "t0,1,0,0;t0,1,0,1;a0;a1;h0,0;h0,0;",
            "befriend(0)=20 befriend(1)=20 well(0)=2 ride(1)=1 well(0)=1 ride(0)=2 well(0)=1 suggest(0)=NO");
        edge("15 one BY A DAY on day 10", "t0,9,5,0;t0,1,5,1;t4,1,5,2;a0;a1;a2;",
            "well(0)=6 well(1)=0 well(2)=1 well(3)=2");
        edge("15 one BY A DAY not on day 11", "t0,9,5,0;t0,2,5,1;t4,1,5,2;a0;a1;a2;",
            "well(0)=4 well(1)=0 well(2)=2 well(3)=1");
        edge("15 a DONE one in no days", "t2,9,0,1;t0,5,5,0;a0;l5;", "well(0)=1 well(1)=0 well(2)=1");
        edge("15 till all is BROUGHT: what a ride asks too", "t0,1,5,1;t0,9,5,1;a0;l9;",
            "well(0)=0 handUp(0)=3 well(0)=1 well(1)=NONE");
        edge("15 nothing is RIDDEN for by it", three, "well(0)=6 well(3)=2 count(3)=0 count(6)=0 count(9)=0");
    }

    private static void fewest() {
        only("16 what is 0 or 1", TWO, "", "fewest(#)", 0, 1);
        edge("16 the set of nobody, when there is a row WELL", ONE, "fewest(0)=0 fewest(1)=0");
        edge("16 the set of nobody, when nothing is ASKED", "t0,1,0,0;h0,3;", "fewest(0)=0 fewest(1)=0");
        edge("16 the set of nobody, for a row of eight", EIGHT + ALL_ASKED, "fewest(0)=0 fewest(1)=0");
        edge("16 none: there are no HELPERS", "t0,1,0,0;a0;", "fewest(0)=NONE fewest(1)=NONE");
        edge("16 none: nobody of its KIND", "t0,1,0,0;a0;h1,0;", "fewest(0)=NONE fewest(1)=NONE");
        edge("16 none: it is too late, whoever helps", "t0,2,0,0;a0;h0,0;l1;", "fewest(0)=NONE fewest(1)=NONE");
        edge("16 none: the HEAD is LOST", "t0,2,5,0;a0;l1;", "ride(0)=2 fewest(0)=NONE fewest(1)=NONE");
        edge("16 that can be made FRIENDS now: for all the CRUMBS", "t1,1,0,0;a0;h0,5;h0,6;c11;",
            "fewest(0)=11 fewest(1)=3");
        edge("16 that can be made FRIENDS now: one CRUMB too few", "t1,1,0,0;a0;h0,5;h0,6;c10;",
            "fewest(0)=NONE fewest(1)=NONE");
        edge("16 that can be made FRIENDS now: not those that are", "t1,1,0,0;a0;h0,5;h0,6;c11;",
            "befriend(0)=6 fewest(0)=6 fewest(1)=2 befriend(1)=0 fewest(0)=0 fewest(1)=0");
        edge("16 of fewest CRUMBS, though it is larger as bits", "t0,1,0,0;a0;h0,5;h0,4;", "fewest(0)=4 fewest(1)=2");
        edge("16 of several the lowest as bits", "t0,1,0,0;a0;h1,0;h0,4;h0,4;", "fewest(0)=4 fewest(1)=2");
        edge("16 of several the lowest as bits, be they for nothing", "t0,1,0,0;a0;h0,0;h0,0;c0;",
            "fewest(0)=0 fewest(1)=1");
        edge("16 of all seven",
            "t1,1,0,1;t1,1,1,2;t3,1,2,3;t0,1,3,3;a0;h0,9;h0,9;h1,9;h1,9;h2,9;h4,9;h3,9;c63;",
            "fewest(0)=63 fewest(1)=127 worth(6,1)=9 worth(0,1)=9");
        edge("16 of the seventh", "t0,1,1,0;a0;h0,0;h0,0;h0,0;h0,0;h0,0;h0,0;h1,20;",
            "fewest(0)=20 fewest(1)=64");
        edge("16 nobody is made a FRIEND by it", TWO, "fewest(0)=3 fewest(1)=1 count(4)=0 count(5)=20 count(9)=0");
    }

    private static void step() {
        only("17 TASKS such as there are: of one", ONE, "", "step(#)", 0, 0);
        only("17 TASKS such as there are: of eight", EIGHT, "", "step(#)", 0, 7);
        edge("17 none: nothing is ASKED", "t0,1,5,0;", "well(0)=1 step(0)=0");
        edge("17 none: it is BROUGHT", ONE, "ride(0)=1 well(0)=1 step(0)=0");
        edge("17 none: it can not be RIDDEN for", TWO, "step(0)=0 step(1)=0");
        edge("17 none: the HEAD is LOST", "t0,2,5,1;t2,0,5,1;a0;l1;", "ride(0)=2 step(1)=0");
        edge("17 none: the HEAD would be LOST", "t0,2,5,0;a0;l1;", "step(0)=0");
        edge("17 a row of one ride", ONE, "step(0)=1");
        edge("17 rows of eight rides", EIGHT + ALL_ASKED, "step(0)=5040 step(7)=5040");
        edge("17 nothing is RIDDEN for by it", ONE, "step(0)=1 count(3)=0 count(6)=0 count(9)=0");
    }

    private static void worth() {
        only("18 HELPERS such as there are: of seven", FIRST, "", "worth(#,0)", 0, 6);
        only("18 HELPERS such as there are: of one", "t0,1,0,0;a0;h0,5;", "", "worth(#,1)", 0, 0);
        only("18 what is 0 or 1", TWO, "", "worth(0,#)", 0, 1);
        refused("18 NO: he is a FRIEND", TWO, "befriend(0)=17", "worth(0,0)=NO worth(0,1)=NO");
        refused("18 NO: he is a FRIEND, though USED", TWO, "befriend(0)=17 ride(0)=1", "worth(0,0)=NO worth(0,1)=NO");
        edge("18 0 rows more", TWO, "worth(1,0)=0");
        edge("18 0 rows more than there are", TWO, "befriend(0)=17 well(0)=1 worth(1,0)=0");
        edge("18 one row more than there is", "t3,1,0,0;t0,1,1,1;a0;a1;h0,0;h1,0;h2,0;h1,9;",
            "befriend(0)=20 befriend(1)=20 befriend(2)=20 well(0)=1 worth(3,0)=1 worth(3,1)=0");
        edge("18 one row more, where there was none", TWO, "well(0)=0 worth(0,0)=1");
        edge("18 for nothing: though he is too dear", "t0,1,0,0;a0;h0,5;c4;", "worth(0,0)=1");
        edge("18 for nothing: all that he asks is fewer", TWO, "worth(0,1)=3 worth(1,1)=0");
        edge("18 NONE: FEWEST are none now, though they were some then", "t0,1,0,0;a0;h0,5;c4;", "worth(0,1)=NONE");
        edge("18 NONE: FEWEST are none now, and then", "t0,1,0,0;a0;h1,0;", "worth(0,1)=NONE");
        edge("18 0 fewer, when FEWEST are 0", ONE + "h0,5;", "fewest(0)=0 worth(0,1)=0");
        edge("18 the dearer one saves what the cheaper one asks", "t0,1,0,0;a0;h0,5;h0,9;",
            "worth(1,1)=5 worth(0,1)=5");
        edge("18 when the HEAD is LOST", "t0,2,5,0;a0;h0,5;l1;", "ride(0)=2 worth(0,0)=0 worth(0,1)=NONE");
        edge("18 nobody is made a FRIEND by it", TWO,
            "worth(0,0)=1 worth(0,1)=3 count(4)=0 count(5)=20 count(9)=0 well(0)=0");
    }

    private static void see() {
        only("19 TASKS such as there are: of one", ONE, "", "see(#,1)", 0, 0);
        only("19 TASKS such as there are: of eight", EIGHT, "", "see(#,8)", 0, 7);
        only("19 n is 1 to 8", TWO, "see(1,1)=1", "see(0,#)", 1, 8);
        String six = "see(0,1)=1 see(0,2)=2 see(0,8)=3 see(1,1)=4 see(1,1)=5 see(1,8)=6 ";
        edge("19 6 at most", TWO, six + "count(8)=6 see(0,1)=FULL count(8)=6");
        refused("19 FULL: nothing changes", TWO, six, "see(0,1)=FULL see(1,8)=FULL");
        edge("19 what is SEEN with the sixth counts", ONE,
            "see(0,1)=1 see(0,1)=2 see(0,1)=3 see(0,1)=4 see(0,1)=5 rows(0)=1 see(0,2)=6 rows(0)=0 forget()=6"
            + " rows(0)=1");
        edge("19 what is FULL is not SEEN", ONE,
            "see(0,1)=1 see(0,1)=2 see(0,1)=3 see(0,1)=4 see(0,1)=5 see(0,1)=6 see(0,2)=FULL rows(0)=1");
        edge("19 there is room again, when it is forgotten", TWO, six + "see(0,1)=FULL forget()=6 see(0,1)=1");
        edge("19 what is neither ASKED nor may come, or is BROUGHT", "t0,1,5,0;t0,1,5,1;a0;",
            "see(1,1)=1 ride(0)=1 see(0,1)=2");
        edge("19 when the HEAD is LOST", "t0,2,5,0;a0;l1;", "ride(0)=2 see(0,1)=1");
    }

    private static void forget() {
        edge("20 nothing was SEEN", ONE, "forget()=0 count(8)=0");
        edge("20 six were SEEN", ONE,
            "see(0,2)=1 see(0,3)=2 see(0,4)=3 see(0,5)=4 see(0,6)=5 see(0,7)=6 rows(0)=0 forget()=6 count(8)=0"
            + " rows(0)=1 rows(1)=0 forget()=0");
        edge("20 nothing else changes", TWO,
            "befriend(0)=17 keep()=1 see(0,1)=1 forget()=1 count(4)=1 count(9)=1 count(10)=1 count(11)=31");
    }

    private static void rows() {
        String three = "t0,1,5,0;t0,1,5,1;t0,1,5,2;t0,1,5,3;a0;a1;a2;";
        only("21 k is 0 to 8", three, "see(0,1)=1", "rows(#)", 0, 8);
        edge("21 nothing SEEN: all rows WELL", three,
            "rows(0)=6 rows(1)=0 rows(2)=1 rows(3)=2 rows(4)=NONE rows(8)=NONE");
        edge("21 0: there is none, NONE", three, "see(3,1)=1 rows(0)=0 rows(1)=NONE rows(8)=NONE");
        edge("21 the first place", three, "see(2,1)=1 rows(0)=2 rows(1)=2 rows(2)=0 rows(3)=1 rows(4)=NONE");
        edge("21 the last place", three, "see(0,3)=1 rows(0)=2 rows(1)=1 rows(2)=2 rows(3)=0 rows(4)=NONE");
        edge("21 a place behind the last one", three, "see(0,4)=1 rows(0)=0");
        edge("21 the eighth place", EIGHT + ALL_ASKED,
            "see(0,8)=1 rows(0)=5040 rows(1)=1 rows(7)=7 rows(8)=0 see(1,8)=2 rows(0)=0");
        edge("21 the eighth place of a row of seven", EIGHT + ALL_ASKED, "ride(0)=1 see(1,8)=1 rows(0)=0");
        edge("21 two at one place", three, "see(0,1)=1 see(1,1)=2 rows(0)=0");
        edge("21 one at two places", three, "see(0,1)=1 see(0,2)=2 rows(0)=0");
        edge("21 the same once more", three, "see(1,2)=1 see(1,2)=2 rows(0)=2 rows(1)=0 rows(2)=1 rows(3)=2");
        edge("21 all that is SEEN", three, "see(2,1)=1 see(0,2)=2 see(1,3)=3 rows(0)=1 rows(1)=2 rows(2)=0 rows(3)=1");
        edge("21 from how it stands when that is asked", three,
            "see(1,1)=1 rows(0)=2 ride(0)=1 rows(0)=1 rows(1)=1 rows(2)=2 ride(1)=2 rows(0)=0");
        edge("21 a row of no rides", "t0,1,5,0;", "rows(0)=1 rows(1)=NONE see(0,1)=1 rows(0)=0");
        edge("21 a row that is none is none, though it was SEEN so", three + "l2;",
            "rows(0)=0 see(0,1)=1 rows(0)=0 rows(1)=NONE");
        edge("21 what is SEEN changes ROWS alone", three,
            "see(3,8)=1 rows(0)=0 well(0)=6 well(1)=0 step(0)=2 fewest(0)=0 grooms(0,0)=1");
    }

    private static void forWhat() {
        only("22 TASKS such as there are: of one", ONE, "", "forWhat(#)", 0, 0);
        only("22 TASKS such as there are: of eight", EIGHT, "", "forWhat(#)", 0, 7);
        refused("22 NO: BROUGHT", ONE, "ride(0)=1", "forWhat(0)=NO");
        refused("22 NO: HANDED UP", ONE, "handUp(0)=3", "forWhat(0)=NO");
        edge("22 itself, if it is ASKED, whose N it ever is", "t0,1,5,1;t0,1,5,1;a0;a1;", "forWhat(0)=1 forWhat(1)=2");
        edge("22 itself, the eighth", EIGHT + "a7;", "forWhat(7)=128");
        edge("22 those that MAY COME whose N it is", "t0,1,5,2;t0,1,5,2;t0,1,5,2;t0,1,5,2;a0;a3;", "forWhat(2)=9");
        edge("22 none: none that MAY COME", "t0,1,5,0;t0,1,5,2;t0,1,5,2;a0;", "forWhat(2)=0 forWhat(1)=0");
        edge("22 none: it is BROUGHT", "t0,1,5,1;t0,1,5,1;a0;", "forWhat(1)=1 handUp(0)=3 forWhat(1)=0");
        edge("22 one that MAY COME, not ASKED", "t0,1,5,1;t0,1,5,2;t0,1,5,2;a0;", "forWhat(2)=2");
        edge("22 when the HEAD is LOST", "t0,2,5,0;t0,1,5,2;t0,1,5,2;a0;a1;l1;",
            "ride(0)=2 forWhat(1)=2 forWhat(2)=2 forWhat(0)=NO");
    }
}
