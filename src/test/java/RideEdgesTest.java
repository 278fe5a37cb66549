/** The edges of promises 6 to 13: TASKS, HELPERS, rides, and what is UNDONE. */
public final class RideEdgesTest extends Edges {
    public static void main(String[] args) {
        task();
        helper();
        helpOfFew();
        helpOfTwo();
        helpByADay();
        helpRefused();
        befriend();
        ride();
        rideAsks();
        lost();
        suggest();
        handUp();
        undo();
        undoneAtMost();
        due.end();
    }

    private static void task() {
        only("6 TASKS such as there are: of six", FIRST, "", "task(#,0)", 0, 5);
        only("6 TASKS such as there are: of one", ONE, "ride(0)=1", "task(#,4)", 0, 0);
        only("6 TASKS such as there are: of eight", EIGHT, "", "task(#,6)", 0, 7);
        only("6 what is 0 to 6", TWO, "befriend(0)=17", "task(0,#)", 0, 6);
        edge("6 the least and the most of each", "t0,0,0,0;t4,9,5,7;".repeat(4),
            "task(0,0)=0 task(0,1)=0 task(0,2)=0 task(0,3)=0 task(7,0)=4 task(7,1)=9 task(7,2)=5 task(7,3)=7");
        edge("6 the most of each ahead of the least", "t4,9,5,7;t0,0,0,0;".repeat(4),
            "task(0,0)=4 task(0,1)=9 task(0,2)=5 task(0,3)=7 task(7,0)=0 task(7,1)=0 task(7,2)=0 task(7,3)=0");
        edge("6 N that is itself", ONE, "task(0,3)=0");
        edge("6 one that is BROUGHT is ASKED too, and can not be RIDDEN for", ONE,
            "task(0,6)=1 ride(0)=1 task(0,4)=1 task(0,5)=1 task(0,6)=0");
        edge("6 one that is not ASKED", "t0,1,5,0;", "task(0,4)=0 task(0,5)=0 task(0,6)=0");
    }

    private static void helper() {
        only("7 HELPERS such as there are: of seven", FIRST, "", "helper(#,1)", 0, 6);
        only("7 HELPERS such as there are: of two", TWO, "befriend(1)=16", "helper(#,2)", 0, 1);
        only("7 what is 0 to 3", TWO, "befriend(0)=17", "helper(0,#)", 0, 3);
        refused("7 no HELPERS", ONE, "", "helper(0,0)=BAD helper(0,3)=BAD helper(-1,0)=BAD helper(7,0)=BAD");
        edge("7 the least and the most of each", "t0,1,5,0;h0,0;h4,20;",
            "helper(0,0)=0 helper(0,1)=0 helper(1,0)=4 helper(1,1)=20");
        edge("7 the most of each ahead of the least", "t0,1,5,0;h4,20;h0,0;",
            "helper(0,0)=4 helper(0,1)=20 helper(1,0)=0 helper(1,1)=0");
        edge("7 a FRIEND is not USED till a TASK is RIDDEN for", TWO,
            "helper(0,2)=0 befriend(0)=17 helper(0,2)=1 helper(0,3)=0 ride(0)=1 helper(0,2)=1 helper(0,3)=1"
            + " helper(1,2)=0 helper(1,3)=0");
    }

    private static void helpOfFew() {
        edge("8 a PLAIN one with one of its KIND", "t0,1,2,0;a0;h1,0;h2,0;h3,0;",
            "help(0)=NO befriend(0)=20 befriend(2)=20 help(0)=NO befriend(1)=20 help(0)=2");
        edge("8 a PLAIN one with KIND 0", "t0,1,0,0;a0;h1,0;h0,0;",
            "befriend(0)=20 help(0)=NO befriend(1)=20 help(0)=2");
        edge("8 a PLAIN one with KIND 4", "t0,1,4,0;a0;h4,0;h3,0;",
            "befriend(1)=20 help(0)=NO befriend(0)=20 help(0)=1");
        edge("8 a PLAIN one with none, if that is 5", "t0,1,5,0;a0;h0,0;",
            "help(0)=0 befriend(0)=20 help(0)=0 ride(0)=1 helper(0,3)=0");
        edge("8 a DONE one with none, in no days", "t2,9,0,0;a0;h0,0;",
            "help(0)=0 befriend(0)=20 help(0)=0 ride(0)=0 helper(0,3)=0 count(4)=1");
        edge("8 of several FRIENDS the lowest", "t0,1,2,0;a0;h2,0;h2,0;h2,0;",
            "befriend(2)=20 help(0)=4 befriend(1)=20 help(0)=2 befriend(0)=20 help(0)=1");
        edge("8 of seven FRIENDS the last one", "t0,1,2,0;a0;h0,0;h0,0;h0,0;h0,0;h0,0;h0,0;h2,0;",
            "befriend(6)=20 help(0)=64");
        edge("8 FRIENDS that are not USED", "t0,1,2,0;t0,1,2,1;t0,1,2,2;a0;a1;a2;h2,0;h2,0;",
            "befriend(0)=20 befriend(1)=20 help(1)=1 ride(0)=1 help(1)=2 ride(1)=2 help(2)=NO");
    }

    private static void helpOfTwo() {
        edge("8 an IMPOSSIBLE one with two of that KIND", "t1,1,2,0;a0;h2,0;h0,0;h2,0;h2,0;",
            "help(0)=NO befriend(1)=20 befriend(2)=20 help(0)=NO befriend(3)=20 help(0)=12 befriend(0)=20 help(0)=5");
        edge("8 an IMPOSSIBLE one of two: one is USED", "t1,1,2,0;t0,1,2,1;a0;a1;h2,0;h2,0;",
            "befriend(0)=20 befriend(1)=20 help(0)=3 ride(1)=1 help(0)=NO");
        edge("8 an IMPOSSIBLE one with none, if 5", "t1,1,5,0;a0;h0,0;",
            "help(0)=0 befriend(0)=20 help(0)=0 ride(0)=1 count(4)=1");
        edge("8 one FOR TWO with one of its KIND, and then one more, of any", "t3,1,2,0;a0;h0,0;h2,0;h2,0;",
            "befriend(1)=20 help(0)=NO befriend(2)=20 help(0)=6 befriend(0)=20 help(0)=3");
        edge("8 one FOR TWO: two of any are too few without one of its KIND", "t3,1,2,0;a0;h0,0;h1,0;h2,0;",
            "befriend(0)=20 befriend(1)=20 help(0)=NO befriend(2)=20 help(0)=5");
        edge("8 one FOR TWO with none of its KIND, if 5, and then one more, of any", "t3,1,5,0;a0;h4,0;h1,0;",
            "help(0)=NO befriend(1)=20 help(0)=2 befriend(0)=20 help(0)=1 ride(0)=1 count(4)=1 helper(0,3)=1");
    }

    private static void helpByADay() {
        String byADay = "t4,9,5,0;t0,9,5,1;t0,1,5,2;t0,2,5,3;t0,5,5,4;a0;a1;a2;a3;a4;";
        edge("8 one BY A DAY on day 0", byADay, "help(0)=0 task(0,6)=1 ride(0)=9");
        edge("8 one BY A DAY on day 10, whenever it is BROUGHT", byADay,
            "ride(1)=9 help(0)=0 ride(2)=10 help(0)=0 task(0,6)=1 ride(0)=19 count(7)=0");
        edge("8 one BY A DAY not on day 11", byADay,
            "ride(1)=9 ride(3)=11 help(0)=NO task(0,6)=0 ride(0)=NO handUp(0)=30");
        edge("8 one BY A DAY not on day 11, by handing up", byADay,
            "handUp(4)=11 help(0)=NO ride(0)=NO undo()=0 ride(0)=9");
        edge("8 one BY A DAY as a PLAIN one", "t4,1,2,0;a0;h0,0;h2,0;h2,0;",
            "help(0)=NO befriend(0)=20 help(0)=NO befriend(2)=20 help(0)=4 befriend(1)=20 help(0)=2");
        edge("8 only one BY A DAY is by a day", byADay, "ride(1)=9 ride(3)=11 help(2)=0 ride(2)=12");
    }

    private static void helpRefused() {
        only("8 TASKS such as there are: of six", FIRST, "befriend(0)=27", "help(#)", 0, 5);
        only("8 TASKS such as there are: of eight", EIGHT, "", "help(#)", 0, 7);
        refused("8 NO: not ASKED", FIRST, "befriend(1)=26 befriend(2)=20", "help(1)=NO help(4)=NO");
        refused("8 NO: BROUGHT", TWO, "befriend(0)=17 ride(0)=1", "help(0)=NO");
        refused("8 NO: BROUGHT by handing up", TWO, "handUp(0)=3", "help(0)=NO");
        refused("8 NO: no FRIEND", TWO, "", "help(0)=NO");
        refused("8 NO: the HEAD is LOST", "t0,2,5,0;t0,2,5,1;a0;a1;l1;", "ride(0)=2", "help(1)=NO task(1,6)=0");
    }

    private static void befriend() {
        only("9 HELPERS such as there are: of seven", FIRST, "", "befriend(#)", 0, 6);
        only("9 HELPERS such as there are: of two", TWO, "", "befriend(#)", 0, 1);
        edge("9 for all the CRUMBS that there are", "t0,1,5,0;h0,5;h0,6;h0,0;c11;",
            "befriend(1)=5 befriend(0)=0 count(5)=0 count(4)=2");
        refused("9 NO: one CRUMB too few", "t0,1,5,0;h0,5;h0,6;h0,0;c10;", "befriend(1)=4", "befriend(0)=NO");
        edge("9 for 0 CRUMBS, when there are none", "t0,1,5,0;h0,0;c0;", "befriend(0)=0 helper(0,2)=1");
        edge("9 for 20 CRUMBS", "t0,1,5,0;h0,20;h0,20;c20;", "befriend(0)=0 befriend(1)=NO");
        refused("9 NO: he is a FRIEND", TWO, "befriend(0)=17", "befriend(0)=NO");
        refused("9 NO: he is a FRIEND, though USED", TWO, "befriend(0)=17 ride(0)=1", "befriend(0)=NO");
        refused("9 NO: he is a FRIEND for nothing", "t0,1,5,0;h0,0;", "befriend(0)=20", "befriend(0)=NO");
        edge("9 when the HEAD is LOST too", "t0,2,5,0;a0;h0,3;l1;",
            "ride(0)=2 count(7)=1 befriend(0)=17 undo()=1 count(5)=20");
        edge("9 seven FRIENDS", "t0,1,5,0;" + SEVEN_HELPERS,
            "befriend(0)=19 befriend(1)=18 befriend(2)=17 befriend(3)=16 befriend(4)=15 befriend(5)=14 befriend(6)=13"
            + " count(4)=7");
    }

    private static void ride() {
        only("10 TASKS such as there are: of one", ONE, "", "ride(#)", 0, 0);
        only("10 TASKS such as there are: of eight", EIGHT + ALL_ASKED, "", "ride(#)", 0, 7);
        refused("10 NO: not ASKED", TWO, "befriend(0)=17", "ride(1)=NO");
        refused("10 NO: BROUGHT", TWO, "befriend(0)=17 befriend(1)=13 ride(0)=1", "ride(0)=NO");
        refused("10 NO: no FRIEND that is not USED", "t0,1,0,0;t0,1,0,1;a0;a1;h0,1;", "befriend(0)=19 ride(1)=1",
            "ride(0)=NO");
        refused("10 NO: no FRIEND of its KIND", TWO, "befriend(1)=16", "ride(0)=NO");
        refused("10 NO: the HEAD is LOST", "t0,2,5,0;t0,2,5,1;a0;a1;l1;", "ride(0)=2", "ride(1)=NO");
        edge("10 it takes its days: 0", "t0,0,5,0;a0;", "ride(0)=0 count(3)=1 count(6)=0");
        edge("10 it takes its days: 9", "t0,9,5,0;a0;", "ride(0)=9 count(6)=9");
        edge("10 they are USED: just those", "t1,1,2,0;a0;h2,0;h2,0;h2,0;",
            "befriend(0)=20 befriend(1)=20 befriend(2)=20 ride(0)=1 helper(0,3)=1 helper(1,3)=1 helper(2,3)=0"
            + " count(4)=1");
    }

    private static void rideAsks() {
        edge("10 its N is ASKED then", "t0,1,5,1;t0,1,5,1;a0;", "task(1,4)=0 ride(0)=1 task(1,4)=1 count(2)=1");
        edge("10 if it is another one: itself is not", ONE, "ride(0)=1 count(2)=0 task(0,5)=1 ride(0)=NO");
        edge("10 if it is not BROUGHT", "t0,1,5,1;t0,1,5,0;a0;a1;",
            "ride(0)=1 ride(1)=2 count(2)=0 count(3)=2 ride(0)=NO");
        edge("10 N that is ASKED already", "t0,1,5,1;t0,1,5,1;a0;a1;", "ride(0)=1 count(2)=1 ride(1)=2 count(2)=0");
        edge("10 the N of N is not ASKED yet", "t0,1,5,1;t0,1,5,2;t0,1,5,2;a0;",
            "ride(0)=1 task(2,4)=0 ride(1)=2 task(2,4)=1");
    }

    private static void lost() {
        edge("10 on day L the HEAD is not LOST, a day later it is", "t0,1,5,0;t0,1,5,1;t0,1,5,2;a0;a1;a2;l1;",
            "ride(0)=1 count(7)=0 ride(1)=2 count(7)=1 ride(2)=NO");
        String sixty = "t0,9,5,0;t0,9,5,1;t0,9,5,2;t0,1,5,3;t0,0,5,4;t0,9,5,5;a0;a1;a2;a3;a4;a5;l60;";
        String till60 = "handUp(0)=19 handUp(1)=38 handUp(2)=57 handUp(3)=60 ";
        edge("10 the last of 60 days", sixty,
            till60 + "count(7)=0 handUp(4)=61 count(7)=1 count(6)=61 undo()=4 count(6)=60");
        edge("10 the latest day that there can be", sixty,
            till60 + "handUp(5)=79 count(6)=79 befriend(0)=BAD undo()=4 count(6)=60 count(7)=0");
        edge("10 the latest day, kept", sixty,
            till60 + "handUp(5)=79 keep()=1 undo()=4 back()=0 count(6)=79 count(7)=1 count(2)=1");
        String late = "t0,2,5,1;t0,1,5,1;t0,1,5,2;t2,0,5,3;a0;a3;l1;h0,1;";
        refused("10 the HEAD is LOST: nothing can be RIDDEN for any more", late, "ride(0)=2",
            "ride(1)=NO ride(3)=NO ride(0)=NO");
        refused("10 the HEAD is LOST: nothing can be SUGGESTED any more", late, "ride(0)=2",
            "suggest(2)=NO suggest(1)=NO");
        refused("10 the HEAD is LOST: nothing can be HANDED UP any more", late, "ride(0)=2",
            "handUp(1)=NO handUp(3)=NO");
        edge("10 what is RIDDEN for too late is BROUGHT, and its N ASKED", late,
            "ride(0)=2 task(0,5)=1 task(1,4)=1 count(2)=2");
        edge("10 the HEAD is LOST by handing up too", late,
            "handUp(3)=1 count(7)=0 handUp(0)=6 count(7)=1 suggest(2)=NO");
        edge("10 UNDONE, the HEAD is not LOST", late, "ride(0)=2 undo()=0 count(7)=0 suggest(2)=3 ride(3)=0");
    }

    private static void suggest() {
        only("11 TASKS such as there are: of one", "t0,1,5,0;", "", "suggest(#)", 0, 0);
        only("11 TASKS such as there are: of eight", EIGHT, "", "suggest(#)", 0, 7);
        refused("11 NO: ASKED", TWO, "", "suggest(0)=NO");
        refused("11 NO: ASKED by a ride", TWO, "befriend(0)=17 ride(0)=1", "suggest(1)=NO");
        refused("11 NO: SUGGESTED already", TWO, "suggest(1)=2", "suggest(1)=NO");
        refused("11 NO: BROUGHT", TWO, "befriend(0)=17 ride(0)=1", "suggest(0)=NO");
        refused("11 NO: BROUGHT by handing up", TWO, "handUp(0)=3", "suggest(0)=NO");
        refused("11 NO: the HEAD is LOST", "t0,1,5,0;t0,1,5,1;a0;l2;", "handUp(0)=3", "suggest(1)=NO");
        refused("11 NO: the HEAD is LOST, and it is the lowest", "t0,1,5,0;t0,1,5,1;a1;l2;", "handUp(1)=3",
            "suggest(0)=NO suggest(1)=NO");
        edge("11 on the last day it can be", "t0,1,5,0;t0,1,5,1;a0;l3;", "handUp(0)=3 suggest(1)=1");
        edge("11 how many are ASKED, not BROUGHT: of nothing one, of all eight", EIGHT,
            "suggest(7)=1 suggest(0)=2 suggest(1)=3 suggest(2)=4 suggest(3)=5 suggest(4)=6 suggest(5)=7 suggest(6)=8"
            + " ride(6)=1");
    }

    private static void handUp() {
        only("12 TASKS such as there are: of one", ONE, "", "handUp(#)", 0, 0);
        only("12 TASKS such as there are: of eight", EIGHT + ALL_ASKED, "", "handUp(#)", 0, 7);
        refused("12 NO: not ASKED", TWO, "", "handUp(1)=NO");
        refused("12 NO: BROUGHT", TWO, "befriend(0)=17 ride(0)=1", "handUp(0)=NO");
        refused("12 NO: HANDED UP already", TWO, "handUp(0)=3", "handUp(0)=NO");
        refused("12 NO: the HEAD is LOST", "t0,1,5,0;t0,1,5,1;a0;a1;l2;", "handUp(0)=3", "handUp(1)=NO");
        edge("12 on the last day it can be", "t0,1,5,0;t0,1,5,1;a0;a1;l3;", "handUp(0)=3 handUp(1)=6 count(7)=1");
        edge("12 twice its days and one: of 0 days", "t0,0,5,0;a0;", "handUp(0)=1");
        edge("12 twice its days and one: of 9 days", "t0,9,5,0;a0;", "handUp(0)=19");
        edge("12 D, whatever its KIND: of a DONE one too", "t2,9,5,0;a0;", "handUp(0)=19");
        edge("12 with no help, be there none or some", "t1,1,2,0;t3,1,2,1;a0;a1;h2,0;h2,0;",
            "handUp(0)=3 befriend(0)=20 befriend(1)=20 handUp(1)=6 count(4)=2 helper(0,3)=0");
        edge("12 nothing is ASKED by it", "t0,1,5,1;t0,1,5,1;a0;", "handUp(0)=3 task(1,4)=0 count(2)=0 suggest(1)=1");
    }

    private static void undo() {
        refused("13 NO: nothing to undo", TWO, "", "undo()=NO");
        refused("13 NO: all is UNDONE", TWO, "befriend(0)=17 undo()=0", "undo()=NO");
        refused("13 NO: behind lay()", TWO, "befriend(0)=17 lay()=2", "undo()=NO");
        refused("13 NO: behind back()", TWO, "keep()=1 befriend(0)=17 back()=0", "undo()=NO");
        refused("13 NO: refused calls are not UNDONE", TWO, "ride(0)=NO suggest(0)=NO handUp(1)=NO befriend(2)=BAD",
            "undo()=NO");
        refused("13 NO: what is SEEN, KEPT, written is not UNDONE", TWO, "keep()=1 see(0,1)=1 write(59)=32 forget()=1",
            "undo()=NO");
        edge("13 of befriend", TWO, "befriend(0)=17 undo()=0 helper(0,2)=0 count(5)=20 befriend(0)=17");
        edge("13 of ride", TWO,
            "befriend(0)=17 ride(0)=1 undo()=1 task(0,5)=0 task(1,4)=0 helper(0,3)=0 count(6)=0 ride(0)=1");
        edge("13 of suggest", TWO, "suggest(1)=2 undo()=0 task(1,4)=0 suggest(1)=2");
        edge("13 of handUp", TWO, "handUp(0)=3 undo()=0 task(0,5)=0 count(6)=0 handUp(0)=3");
        edge("13 the latest first", TWO,
            "suggest(1)=2 handUp(1)=5 undo()=1 task(1,4)=1 count(6)=0 undo()=0 task(1,4)=0");
        edge("13 the latest alone: who was USED stays so", "t0,1,0,0;t0,1,0,1;t0,1,1,2;a0;a1;h0,0;h1,0;h0,0;",
            "befriend(0)=20 befriend(1)=20 befriend(2)=20 ride(0)=1 suggest(2)=2 undo()=4 helper(0,3)=1 helper(1,3)=0"
            + " help(1)=4 ride(1)=2 suggest(2)=1 undo()=5 helper(2,3)=1 helper(0,3)=1 helper(1,3)=0");
    }

    private static void undoneAtMost() {
        String eightOfThem = "suggest(0)=1 suggest(1)=2 suggest(2)=3 suggest(3)=4 suggest(4)=5 suggest(5)=6"
            + " suggest(6)=7 suggest(7)=8 ";
        edge("13 the last 8 can be", EIGHT,
            eightOfThem + "count(9)=8 undo()=7 undo()=6 undo()=5 undo()=4 undo()=3 undo()=2 undo()=1 undo()=0"
            + " count(2)=0 undo()=NO");
        edge("13 of nine the first can not be", EIGHT,
            eightOfThem + "ride(0)=1 count(9)=8 undo()=7 task(0,5)=0 undo()=6 undo()=5 undo()=4 undo()=3 undo()=2"
            + " undo()=1 undo()=0 count(2)=1 task(0,4)=1 task(1,4)=0 undo()=NO count(2)=1");
        edge("13 of ten the first two can not be", EIGHT,
            eightOfThem + "ride(0)=1 ride(1)=2 count(9)=8 undo()=7 undo()=6 undo()=5 undo()=4 undo()=3 undo()=2"
            + " undo()=1 undo()=0 count(2)=2 undo()=NO count(6)=0 suggest(2)=3 count(9)=1");
        edge("13 room comes back by undo", EIGHT,
            eightOfThem + "undo()=7 undo()=6 ride(5)=1 ride(4)=2 count(9)=8 ride(3)=3 count(9)=8 undo()=7 undo()=6"
            + " undo()=5 undo()=4 undo()=3 undo()=2 undo()=1 undo()=0 count(2)=1 undo()=NO");
    }
}
