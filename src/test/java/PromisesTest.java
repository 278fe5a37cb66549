/** Promises 1 to 27, each by answers worked out by hand from the document. */
public final class PromisesTest {
    private static final int BAD = -1, NO = -2, FULL = -3, NONE = -4;
    private static final int[] NUMBERS_FAR_OFF = {-1, Integer.MIN_VALUE, Integer.MAX_VALUE};
    private static final Due due = new Due("PromisesTest");

    public static void main(String[] args) {
        newObject();
        write();
        wipe();
        fault();
        layTakesWhatIsTold();
        layStartsAnew();
        layRefuses();
        task();
        helper();
        help();
        befriend();
        ride();
        rideAsksOnly();
        rideByADay();
        rideTillLost();
        suggest();
        handUp();
        undo();
        mayCome();
        well();
        wellByHelp();
        fewest();
        step();
        worth();
        see();
        forget();
        rows();
        forWhat();
        grooms();
        king();
        keep();
        back();
        count();
        due.end();
    }

    private static void put(FeatherTasks x, String text) {
        x.wipe();
        for (int i = 0; i < text.length(); i++) {
            due.answer("write in " + text, x.write(text.charAt(i)), i + 1);
        }
    }

    private static FeatherTasks laid(String text) {
        FeatherTasks x = new FeatherTasks();
        put(x, text);
        due.holds("lay of " + text, x.lay() > 0);
        return x;
    }

    private static void counts(String when, FeatherTasks x, int... want) {
        for (int what = 0; what < want.length; what++) {
            due.answer(when + " count(" + what + ")", x.count(what), want[what]);
        }
    }

    private static void taskIs(FeatherTasks x, int t, int... want) {
        for (int what = 0; what < want.length; what++) {
            due.answer("task(" + t + ", " + what + ")", x.task(t, what), want[what]);
        }
    }

    private static void helperIs(FeatherTasks x, int h, int... want) {
        for (int what = 0; what < want.length; what++) {
            due.answer("helper(" + h + ", " + what + ")", x.helper(h, what), want[what]);
        }
    }

    private static void wellIs(FeatherTasks x, int... want) {
        for (int k = 0; k <= 8; k++) {
            due.answer("well(" + k + ")", x.well(k), k < want.length ? want[k] : NONE);
        }
    }

    private static void rowsAre(FeatherTasks x, int... want) {
        for (int k = 0; k <= 8; k++) {
            due.answer("rows(" + k + ")", x.rows(k), k < want.length ? want[k] : NONE);
        }
    }

    private static void groomsAre(FeatherTasks x, int of, int above, int below) {
        due.answer("grooms(" + of + ", 0)", x.grooms(of, 0), above);
        due.answer("grooms(" + of + ", 1)", x.grooms(of, 1), below);
    }

    private static void kingIs(FeatherTasks x, int z, int n, int brought, int day, int lost) {
        String call = "king(" + z + ", " + n + ", ";
        due.answer(call + "0)", x.king(z, n, 0), brought);
        due.answer(call + "1)", x.king(z, n, 1), day);
        due.answer(call + "2)", x.king(z, n, 2), lost);
    }

    private static void newObject() {
        due.promise("1 a new object");
        FeatherTasks x = new FeatherTasks();
        counts("new", x, 6, 7, 2, 0, 0, 30, 0, 0, 0, 0, 0, 0, BAD);
        taskIs(x, 0, 0, 3, 0, 1, 1, 0, 0);
        taskIs(x, 1, 1, 5, 1, 2, 0, 0, 0);
        taskIs(x, 2, 3, 4, 2, 3, 0, 0, 0);
        taskIs(x, 3, 4, 2, 5, 3, 0, 0, 0);
        taskIs(x, 4, 2, 9, 4, 5, 0, 0, 0);
        taskIs(x, 5, 0, 6, 3, 4, 1, 0, 0);
        int[] kinds = {0, 1, 1, 2, 4, 3, 0};
        int[] prices = {3, 4, 6, 5, 2, 7, 1};
        for (int h = 0; h < 7; h++) {
            helperIs(x, h, kinds[h], prices[h], 0, 0);
        }
        // Two tasks handed up bring day 20, a third one day 29, which is behind L.
        due.answer("handUp(0)", x.handUp(0), 7);
        due.answer("handUp(5)", x.handUp(5), 20);
        due.answer("suggest(2)", x.suggest(2), 1);
        due.answer("handUp(2)", x.handUp(2), 29);
        due.answer("count(7) behind day 28", x.count(7), 1);
        due.answer("BAD", FeatherTasks.BAD, -1);
        due.answer("NO", FeatherTasks.NO, -2);
        due.answer("FULL", FeatherTasks.FULL, -3);
        due.answer("NONE", FeatherTasks.NONE, -4);
    }

    private static void write() {
        due.promise("2 write");
        FeatherTasks x = new FeatherTasks();
        due.answer("write(32)", x.write(32), 1);
        due.answer("write(126)", x.write(126), 2);
        due.answer("write(31)", x.write(31), BAD);
        due.answer("write(127)", x.write(127), BAD);
        for (int far : NUMBERS_FAR_OFF) {
            due.answer("write(" + far + ")", x.write(far), BAD);
        }
        due.answer("count(11)", x.count(11), 2);
        for (int length = 3; length <= 200; length++) {
            due.answer("write(116)", x.write(116), length);
        }
        due.answer("write(116) at 200", x.write(116), FULL);
        due.answer("write(31) at 200", x.write(31), BAD);
        due.answer("count(11)", x.count(11), 200);
        due.answer("task(0, 1)", x.task(0, 1), 3);
    }

    private static void wipe() {
        due.promise("3 wipe");
        FeatherTasks x = new FeatherTasks();
        due.answer("wipe()", x.wipe(), 0);
        put(x, "t0,1,5,0;");
        due.answer("lay()", x.lay(), 1);
        due.answer("wipe()", x.wipe(), 9);
        due.answer("count(11)", x.count(11), 0);
        due.answer("wipe()", x.wipe(), 0);
        due.answer("what is laid stays", x.count(0), 1);
        // What was written ahead of wipe() is no longer there to end an item or a number.
        put(x, "t0,1,5,0");
        due.answer("fault() of a text without its old end", x.fault(), 0);
        due.answer("lay()", x.lay(), NO);
        put(x, "");
        due.answer("fault() of nothing", x.fault(), NONE);
        due.answer("write(116)", x.write(116), 1);
        for (int i = 1; i < 200; i++) {
            x.write(116);
        }
        due.answer("wipe() of 200", x.wipe(), 200);
    }

    private static void faultIs(String text, int want) {
        FeatherTasks x = new FeatherTasks();
        put(x, text);
        due.answer("fault() of " + text, x.fault(), want);
        due.answer("count(11)", x.count(11), text.length());
        due.answer("task(0, 1)", x.task(0, 1), 3);
        due.answer("count(5)", x.count(5), 30);
        due.answer("count(1)", x.count(1), 7);
    }

    private static void fault() {
        due.promise("4 fault");
        String[] right = {"", "t0,1,5,0;", "t4,9,5,7;", "t00,09,05,07;", "t1,0,0,0;", "h0,0;", "h4,20;", "h04,07;",
            "t0,1,5,0;a0;", "t0,1,5,0;a0;a00;a0;", "c0;", "c99;", "c1;c2;c3;", "l1;", "l60;", "l01;l2;",
            "h0,1;c5;l9;t0,1,5,0;h1,2;a0;t2,3,4,1;a1;", "c07;t3,0,5,3;"};
        for (String text : right) {
            faultIs(text, NONE);
        }
        String[] wrongAtFirst = {"x", ";", "t", "t;", "T0,1,5,0;", " t0,1,5,0;", "t0,1,5,0", "t0,1,5,0,", "t0,1,5;",
            "t0,1,5,0,0;", "t5,1,5,0;", "t0,10,5,0;", "t0,1,6,0;", "t0,1,5,8;", "t000,1,5,0;", "t0,1,005,0;",
            "t,1,5,0;", "t0,,5,0;", "t0,1,5,;", "t0;1;5;0;", "t0.1,5,0;", "t0 ,1,5,0;", "t-1,1,5,0;", "tt0,1,5,0;",
            "h5,0;", "h0,21;", "h0;", "h0,1,2;", "h0,1", "h,1;", "a0;", "a0;t0,1,5,0;", "a;", "c;", "c100;", "c1,2;",
            "c99", "c+1;", "l0;", "l00;", "l61;", "l;", "l1,1;", "l100;", "b1;", "t0,1,5,0:"};
        for (String text : wrongAtFirst) {
            faultIs(text, 0);
        }
        faultIs("t0,1,5,0;x", 9);
        faultIs("t0,1,5,0; ", 9);
        faultIs("t0,1,5,0;;", 9);
        faultIs("t0,1,5,0;a1;t0,1,5,0;", 9);
        faultIs("t0,1,5,0;a0;a8;", 12);
        faultIs("t0,1,5,0;h0,1;h0", 14);
        faultIs("l1;c5;l61;t9", 6);
        faultIs("c1;c2;c3", 6);
        faultIs("h0,1;t0,1,5,0;t0,1,9,0;t", 14);
        String tasks = "";
        for (int t = 0; t < 8; t++) {
            tasks += "t0,1,5,7;";
        }
        faultIs(tasks + "a7;", NONE);
        faultIs(tasks + "t0,1,5,7;", 72);
        String helpers = "";
        for (int h = 0; h < 7; h++) {
            helpers += "h1,20;";
        }
        faultIs(helpers + "c1;", NONE);
        faultIs(helpers + "h1,20;", 42);
    }

    private static void layTakesWhatIsTold() {
        due.promise("5 lay");
        FeatherTasks x = laid("h4,20;t3,9,4,1;h0,7;t02,08,5,0;a1;a1;");
        due.answer("lay() again", x.lay(), 2);
        counts("laid", x, 2, 2, 1, 0, 0, 20, 0, 0, 0, 0, 0, 37);
        taskIs(x, 0, 3, 9, 4, 1, 0, 0, 0);
        taskIs(x, 1, 2, 8, 5, 0, 1, 0, 1);
        helperIs(x, 0, 4, 20, 0, 0);
        helperIs(x, 1, 0, 7, 0, 0);
        due.answer("crumbs, the last told", laid("t0,1,5,0;c9;c99;c0;").count(5), 0);
        due.answer("crumbs, the last told", laid("c0;c5;t0,1,5,0;c99;").count(5), 99);
        String thirty = "t0,9,5,0;t0,9,5,1;t0,9,5,2;t0,3,5,3;a0;a1;a2;a3;";
        due.answer("30 days without l", laid(thirty).well(0), 24);
        due.answer("31 days without l", laid(thirty + "t0,1,5,4;a4;").well(0), 0);
        due.answer("days, the last told", laid(thirty + "l60;l29;").well(0), 0);
        due.answer("days, the last told", laid("l1;l2;" + thirty + "l31;l30;").well(0), 24);
        due.answer("of eight tasks", laid("t0,1,5,7;t0,1,5,7;t0,1,5,7;t0,1,5,7;t0,1,5,7;t0,1,5,7;t0,1,5,7;t0,1,5,7;")
            .count(0), 8);
        due.answer("of fewer tasks than before", laid("t0,1,5,0;").task(1, 0), BAD);
        due.answer("of no helpers", laid("t0,1,5,0;").helper(0, 0), BAD);
    }

    private static void layStartsAnew() {
        due.promise("5 lay");
        FeatherTasks x = laid("t0,1,0,0;t0,1,5,1;t0,1,5,2;h0,1;h0,2;a0;c30;l9;");
        x.befriend(0);
        x.ride(0);
        x.suggest(1);
        x.keep();
        x.keep();
        x.see(1, 1);
        counts("behind rides", x, 3, 2, 1, 1, 0, 29, 1, 0, 1, 3, 2, 47);
        due.answer("lay()", x.lay(), 3);
        counts("laid", x, 3, 2, 1, 0, 0, 30, 0, 0, 0, 0, 0, 47);
        taskIs(x, 0, 0, 1, 0, 0, 1, 0, 0);
        taskIs(x, 1, 0, 1, 5, 1, 0, 0, 0);
        helperIs(x, 0, 0, 1, 0, 0);
        due.answer("undo()", x.undo(), NO);
        due.answer("back()", x.back(), NO);
        x.befriend(0);
        rowsAre(x, 1, 0);
    }

    private static void layRefuses() {
        due.promise("5 lay");
        String[] texts = {"", "c5;l9;h0,1;", "t0,1,5,1;", "t0,1,5,0;t0,1,5,2;", "t0,1,5,7;", "t0,1,5,0;x", "a0;t0,1,5,0;"};
        for (String text : texts) {
            FeatherTasks x = new FeatherTasks();
            x.befriend(0);
            x.keep();
            x.see(2, 3);
            put(x, text);
            due.answer("lay() of " + text, x.lay(), NO);
            counts("not laid", x, 6, 7, 2, 0, 1, 27, 0, 0, 1, 1, 1, text.length());
            taskIs(x, 2, 3, 4, 2, 3, 0, 0, 0);
            helperIs(x, 5, 3, 7, 0, 0);
            due.answer("ride(0)", x.ride(0), 3);
        }
        FeatherTasks x = new FeatherTasks();
        put(x, "t0,1,5,1;");
        due.answer("fault() of a N that is not", x.fault(), NONE);
        due.answer("lay()", x.lay(), NO);
        put(x, "t0,1,5,1;t0,1,5,1;");
        due.answer("lay() with it", x.lay(), 2);
    }

    private static void task() {
        due.promise("6 task");
        FeatherTasks x = laid("t0,2,0,1;t1,3,1,1;t2,4,2,0;h0,1;h1,1;h1,1;a0;");
        taskIs(x, 0, 0, 2, 0, 1, 1, 0, 0);
        taskIs(x, 1, 1, 3, 1, 1, 0, 0, 0);
        taskIs(x, 2, 2, 4, 2, 0, 0, 0, 0);
        x.befriend(0);
        taskIs(x, 0, 0, 2, 0, 1, 1, 0, 1);
        x.ride(0);
        taskIs(x, 0, 0, 2, 0, 1, 1, 1, 0);
        taskIs(x, 1, 1, 3, 1, 1, 1, 0, 0);
        x.befriend(1);
        due.answer("task(1, 6) with one of two", x.task(1, 6), 0);
        x.befriend(2);
        due.answer("task(1, 6) with two", x.task(1, 6), 1);
        due.answer("task(2, 6) not asked", x.task(2, 6), 0);
        x.suggest(2);
        due.answer("task(2, 6) asked", x.task(2, 6), 1);
        due.answer("task(0, 7)", x.task(0, 7), BAD);
        due.answer("task(3, 0)", x.task(3, 0), BAD);
        for (int far : NUMBERS_FAR_OFF) {
            due.answer("task(0, " + far + ")", x.task(0, far), BAD);
            due.answer("task(" + far + ", 0)", x.task(far, 0), BAD);
        }
        FeatherTasks lost = laid("t0,2,5,0;t0,2,5,1;a0;a1;l1;");
        due.answer("task(1, 6)", lost.task(1, 6), 1);
        lost.ride(0);
        due.answer("task(1, 6) lost", lost.task(1, 6), 0);
        due.answer("task(1, 4) lost", lost.task(1, 4), 1);
    }

    private static void helper() {
        due.promise("7 helper");
        FeatherTasks x = laid("t0,2,3,0;h3,20;h3,0;a0;c20;");
        helperIs(x, 0, 3, 20, 0, 0, BAD);
        helperIs(x, 1, 3, 0, 0, 0, BAD);
        x.befriend(1);
        helperIs(x, 1, 3, 0, 1, 0);
        x.ride(0);
        helperIs(x, 1, 3, 0, 1, 1);
        helperIs(x, 0, 3, 20, 0, 0);
        due.answer("helper(2, 0)", x.helper(2, 0), BAD);
        for (int far : NUMBERS_FAR_OFF) {
            due.answer("helper(0, " + far + ")", x.helper(0, far), BAD);
            due.answer("helper(" + far + ", 0)", x.helper(far, 0), BAD);
        }
    }

    /** Seven helpers, all friends; h is their kinds. */
    private static FeatherTasks withFriends(String tasks, int... kinds) {
        StringBuilder text = new StringBuilder(tasks);
        for (int kind : kinds) {
            text.append("h").append(kind).append(",0;");
        }
        FeatherTasks x = laid(text.toString());
        for (int h = 0; h < kinds.length; h++) {
            x.befriend(h);
        }
        return x;
    }

    private static void help() {
        due.promise("8 help");
        int[] kinds = {4, 1, 0, 1, 0, 0, 2};
        due.answer("plain", withFriends("t0,1,0,0;a0;", kinds).help(0), 4);
        due.answer("plain, kind 4", withFriends("t0,1,4,0;a0;", kinds).help(0), 1);
        due.answer("plain, none there", withFriends("t0,1,3,0;a0;", kinds).help(0), NO);
        due.answer("plain, no help", withFriends("t0,1,5,0;a0;", kinds).help(0), 0);
        due.answer("impossible", withFriends("t1,1,0,0;a0;", kinds).help(0), 4 + 16);
        due.answer("impossible, two there", withFriends("t1,1,1,0;a0;", kinds).help(0), 2 + 8);
        due.answer("impossible, one there", withFriends("t1,1,2,0;a0;", kinds).help(0), NO);
        due.answer("impossible, none there", withFriends("t1,1,3,0;a0;", kinds).help(0), NO);
        due.answer("impossible, no help", withFriends("t1,1,5,0;a0;", kinds).help(0), 0);
        due.answer("done", withFriends("t2,1,3,0;a0;", kinds).help(0), 0);
        due.answer("for two", withFriends("t3,1,0,0;a0;", kinds).help(0), 4 + 1);
        due.answer("for two, lowest of all first", withFriends("t3,1,4,0;a0;", kinds).help(0), 1 + 2);
        due.answer("for two, none there", withFriends("t3,1,3,0;a0;", kinds).help(0), NO);
        due.answer("for two, no help of a kind", withFriends("t3,1,5,0;a0;", kinds).help(0), 1);
        due.answer("for two, one there", withFriends("t3,1,0,0;a0;", 0).help(0), NO);
        due.answer("for two, one of no kind", withFriends("t3,1,5,0;a0;", 0).help(0), 1);
        due.answer("for two, nobody", withFriends("t3,1,5,0;a0;").help(0), NO);
        due.answer("by a day", withFriends("t4,1,1,0;a0;", kinds).help(0), 2);
        due.answer("by a day, none there", withFriends("t4,1,3,0;a0;", kinds).help(0), NO);
        due.answer("by a day, no help", withFriends("t4,1,5,0;a0;", kinds).help(0), 0);
        due.answer("not asked", withFriends("t0,1,5,0;", kinds).help(0), NO);
        FeatherTasks used = withFriends("t0,1,0,0;t3,1,0,1;t3,1,5,2;a0;a1;a2;", kinds);
        due.answer("ride(0)", used.ride(0), 1);
        due.answer("brought", used.help(0), NO);
        due.answer("for two, one is used", used.help(1), 16 + 1);
        due.answer("ride(1)", used.ride(1), 2);
        due.answer("for two, three are used", used.help(2), 2);
        due.answer("help(3)", used.help(3), BAD);
        for (int far : NUMBERS_FAR_OFF) {
            due.answer("help(" + far + ")", used.help(far), BAD);
        }
        FeatherTasks stranger = laid("t0,1,0,0;h0,0;h0,0;a0;");
        due.answer("no friend", stranger.help(0), NO);
        stranger.befriend(1);
        due.answer("the second is a friend", stranger.help(0), 2);
        FeatherTasks lost = laid("t0,9,5,0;t2,9,5,1;a0;a1;l8;");
        lost.ride(0);
        due.answer("lost", lost.help(1), NO);
    }

    private static void befriend() {
        due.promise("9 befriend");
        FeatherTasks x = laid("t0,9,0,0;h0,20;h1,3;h2,0;h3,2;a0;c24;l8;");
        due.answer("befriend(0)", x.befriend(0), 4);
        due.answer("befriend(0) again", x.befriend(0), NO);
        due.answer("befriend(1)", x.befriend(1), 1);
        due.answer("befriend(3) for 2 of 1", x.befriend(3), NO);
        due.answer("count(5)", x.count(5), 1);
        due.answer("helper(3, 2)", x.helper(3, 2), 0);
        due.answer("ride(0)", x.ride(0), 9);
        due.answer("lost", x.count(7), 1);
        due.answer("befriend(2) for nothing, lost", x.befriend(2), 1);
        due.answer("befriend(0) used", x.befriend(0), NO);
        due.answer("count(4)", x.count(4), 2);
        due.answer("befriend(4)", x.befriend(4), BAD);
        for (int far : NUMBERS_FAR_OFF) {
            due.answer("befriend(" + far + ")", x.befriend(far), BAD);
        }
        due.answer("count(9)", x.count(9), 4);
        FeatherTasks last = laid("t0,9,0,0;h0,5;c5;");
        due.answer("befriend(0) for all", last.befriend(0), 0);
    }

    private static void ride() {
        due.promise("10 ride");
        FeatherTasks x = withFriends("t0,2,0,1;t1,3,1,2;t2,9,1,3;t3,4,2,0;a0;", 0, 2, 1, 1, 3);
        due.answer("ride(1) not asked", x.ride(1), NO);
        due.answer("ride(0)", x.ride(0), 2);
        due.answer("ride(0) again", x.ride(0), NO);
        helperIs(x, 0, 0, 0, 1, 1);
        helperIs(x, 1, 2, 0, 1, 0);
        counts("behind one", x, 4, 5, 1, 1, 4, 20, 2, 0);
        due.answer("ride(1)", x.ride(1), 5);
        helperIs(x, 2, 1, 0, 1, 1);
        helperIs(x, 3, 1, 0, 1, 1);
        due.answer("ride(2), done, in no days", x.ride(2), 5);
        due.answer("ride(3)", x.ride(3), 9);
        helperIs(x, 1, 2, 0, 1, 1);
        helperIs(x, 4, 3, 0, 1, 1);
        counts("behind all", x, 4, 5, 0, 4, 0, 20, 9, 0, 0, 8);
        due.answer("ride(4)", x.ride(4), BAD);
        for (int far : NUMBERS_FAR_OFF) {
            due.answer("ride(" + far + ")", x.ride(far), BAD);
        }
        FeatherTasks alone = laid("t0,2,0,0;h0,0;h1,0;a0;");
        due.answer("ride(0), no friend", alone.ride(0), NO);
        alone.befriend(1);
        due.answer("ride(0), a friend of another kind", alone.ride(0), NO);
        counts("not ridden", alone, 1, 2, 1, 0, 1, 20, 0, 0, 0, 1);
        FeatherTasks twice = withFriends("t0,2,0,0;t0,2,0,1;a0;a1;", 0);
        due.answer("ride(1)", twice.ride(1), 2);
        due.answer("ride(0), he is used", twice.ride(0), NO);
    }

    private static void rideAsksOnly() {
        due.promise("10 ride");
        FeatherTasks x = laid("t0,1,5,2;t0,1,5,0;t0,1,5,2;t0,1,5,1;a0;a3;");
        due.answer("ride(0)", x.ride(0), 1);
        due.answer("task(2, 4)", x.task(2, 4), 1);
        due.answer("task(1, 4)", x.task(1, 4), 0);
        due.answer("ride(3)", x.ride(3), 2);
        due.answer("task(1, 4)", x.task(1, 4), 1);
        due.answer("ride(2), whose N is itself", x.ride(2), 3);
        due.answer("task(2, 5)", x.task(2, 5), 1);
        due.answer("ride(1), whose N is brought", x.ride(1), 4);
        counts("all", x, 4, 0, 0, 4);
        due.answer("ride(0) again", x.ride(0), NO);
    }

    private static void rideByADay() {
        due.promise("10 ride");
        FeatherTasks tenth = laid("t0,9,5,0;t0,1,5,1;t4,5,5,2;a0;a1;a2;");
        tenth.ride(0);
        tenth.ride(1);
        due.answer("task(2, 6) on day 10", tenth.task(2, 6), 1);
        due.answer("ride(2) on day 10", tenth.ride(2), 15);
        FeatherTasks eleventh = laid("t0,9,5,0;t0,2,5,1;t4,5,5,2;a0;a1;a2;");
        eleventh.ride(0);
        eleventh.ride(1);
        due.answer("task(2, 6) on day 11", eleventh.task(2, 6), 0);
        due.answer("ride(2) on day 11", eleventh.ride(2), NO);
        due.answer("handUp(2) on day 11", eleventh.handUp(2), 22);
        due.answer("count(6)", eleventh.count(6), 22);
    }

    private static void rideTillLost() {
        due.promise("10 ride");
        FeatherTasks x = laid("t0,4,5,1;t0,1,5,2;t2,9,5,0;t0,1,5,3;h0,1;a0;l4;");
        due.answer("ride(0)", x.ride(0), 4);
        due.answer("count(7) on the last day", x.count(7), 0);
        due.answer("ride(1)", x.ride(1), 5);
        due.answer("count(7) behind it", x.count(7), 1);
        due.answer("count(3), it is brought", x.count(3), 2);
        due.answer("task(2, 4), its N is asked", x.task(2, 4), 1);
        due.answer("ride(2), lost", x.ride(2), NO);
        due.answer("suggest(3), lost", x.suggest(3), NO);
        due.answer("handUp(2), lost", x.handUp(2), NO);
        due.answer("befriend(0), lost", x.befriend(0), 19);
        due.answer("undo()", x.undo(), 2);
        due.answer("undo()", x.undo(), 1);
        due.answer("count(7) undone", x.count(7), 0);
        due.answer("suggest(3)", x.suggest(3), 2);
    }

    private static void suggest() {
        due.promise("11 suggest");
        FeatherTasks x = laid("t0,1,5,0;t0,1,5,1;t0,1,5,2;t0,1,5,3;a1;l1;");
        due.answer("suggest(0)", x.suggest(0), 2);
        due.answer("suggest(0), asked", x.suggest(0), NO);
        due.answer("suggest(1), asked at first", x.suggest(1), NO);
        due.answer("task(0, 4)", x.task(0, 4), 1);
        due.answer("task(0, 5)", x.task(0, 5), 0);
        due.answer("count(6), in no days", x.count(6), 0);
        due.answer("ride(0)", x.ride(0), 1);
        due.answer("suggest(0), brought", x.suggest(0), NO);
        due.answer("suggest(3)", x.suggest(3), 2);
        due.answer("handUp(1)", x.handUp(1), 4);
        due.answer("suggest(2), lost", x.suggest(2), NO);
        due.answer("suggest(4)", x.suggest(4), BAD);
        for (int far : NUMBERS_FAR_OFF) {
            due.answer("suggest(" + far + ")", x.suggest(far), BAD);
        }
        counts("behind all", x, 4, 0, 1, 2, 0, 20, 4, 1, 0, 4);
    }

    private static void handUp() {
        due.promise("12 handUp");
        FeatherTasks x = laid("t0,3,0,1;t0,1,5,1;t2,9,5,1;t0,0,1,3;h0,1;a0;a2;a3;l27;");
        due.answer("handUp(1), not asked", x.handUp(1), NO);
        x.befriend(0);
        due.answer("handUp(0)", x.handUp(0), 7);
        due.answer("handUp(0), brought", x.handUp(0), NO);
        taskIs(x, 0, 0, 3, 0, 1, 1, 1, 0);
        due.answer("task(1, 4), nothing is asked by it", x.task(1, 4), 0);
        due.answer("helper(0, 3), with no help", x.helper(0, 3), 0);
        due.answer("handUp(3), of no days", x.handUp(3), 8);
        due.answer("handUp(2), done, by its days", x.handUp(2), 27);
        due.answer("count(7) on the last day", x.count(7), 0);
        due.answer("suggest(1)", x.suggest(1), 1);
        due.answer("handUp(1)", x.handUp(1), 30);
        due.answer("count(7)", x.count(7), 1);
        due.answer("handUp(1), brought", x.handUp(1), NO);
        due.answer("handUp(4)", x.handUp(4), BAD);
        for (int far : NUMBERS_FAR_OFF) {
            due.answer("handUp(" + far + ")", x.handUp(far), BAD);
        }
        FeatherTasks lost = laid("t0,1,5,0;t0,1,5,1;a0;a1;l2;");
        due.answer("handUp(0)", lost.handUp(0), 3);
        due.answer("handUp(1), lost", lost.handUp(1), NO);
        counts("lost", lost, 2, 0, 1, 1, 0, 20, 3, 1, 0, 1);
    }

    private static void undo() {
        due.promise("13 undo");
        FeatherTasks x = laid("t0,1,0,1;t0,2,5,2;t0,3,5,2;h0,4;h1,5;a0;");
        due.answer("undo() of nothing", x.undo(), NO);
        x.befriend(0);
        x.ride(0);
        x.suggest(2);
        x.handUp(1);
        counts("behind four", x, 3, 2, 1, 2, 0, 16, 6, 0, 0, 4);
        due.answer("undo() of handUp", x.undo(), 3);
        counts("undone", x, 3, 2, 2, 1, 0, 16, 1, 0, 0, 3);
        due.answer("undo() of suggest", x.undo(), 2);
        due.answer("task(2, 4)", x.task(2, 4), 0);
        due.answer("undo() of ride", x.undo(), 1);
        taskIs(x, 0, 0, 1, 0, 1, 1, 0, 1);
        due.answer("task(1, 4)", x.task(1, 4), 0);
        helperIs(x, 0, 0, 4, 1, 0);
        due.answer("undo() of befriend", x.undo(), 0);
        helperIs(x, 0, 0, 4, 0, 0);
        counts("all undone", x, 3, 2, 1, 0, 0, 20, 0, 0, 0, 0);
        due.answer("undo() of no more", x.undo(), NO);
        x.befriend(0);
        due.answer("a refused call is not to be undone", x.befriend(0), NO);
        x.see(0, 1);
        due.answer("undo() behind see", x.undo(), 0);
        due.answer("count(8)", x.count(8), 1);

        FeatherTasks y = laid("t0,1,5,0;t0,1,5,1;t0,1,5,2;t0,1,5,3;t0,1,5,4;h0,1;h0,1;h0,1;h0,1;h0,1;h0,1;c9;");
        for (int h = 0; h < 6; h++) {
            y.befriend(h);
        }
        for (int t = 0; t < 4; t++) {
            y.suggest(t);
        }
        due.answer("count(9) behind ten", y.count(9), 8);
        for (int left = 7; left >= 0; left--) {
            due.answer("undo()", y.undo(), left);
        }
        due.answer("undo() of the ninth", y.undo(), NO);
        counts("eight undone", y, 5, 6, 0, 0, 2, 7, 0, 0, 0, 0);
        helperIs(y, 1, 0, 1, 1, 0);
        helperIs(y, 2, 0, 1, 0, 0);
    }

    private static void mayCome() {
        due.promise("14 mayCome");
        due.answer("of the first months", new FeatherTasks().mayCome(), 63);
        due.answer("of nothing asked", laid("t0,1,5,1;t0,1,5,0;").mayCome(), 0);
        due.answer("of itself", laid("t0,1,5,0;t0,1,5,0;a0;").mayCome(), 1);
        due.answer("of a chain, down", laid("t0,1,5,0;t0,1,5,0;t0,1,5,1;t0,1,5,2;a3;").mayCome(), 15);
        FeatherTasks x = laid("t0,1,5,1;t0,1,5,2;t0,1,5,3;t0,1,5,4;t0,1,5,5;t0,1,5,6;t0,1,5,7;t0,1,5,0;a0;");
        due.answer("of a ring", x.mayCome(), 255);
        x.handUp(0);
        due.answer("behind handUp(0)", x.mayCome(), 0);
        x.undo();
        x.ride(0);
        due.answer("behind ride(0)", x.mayCome(), 254);
        FeatherTasks cut = laid("t0,1,5,1;t0,1,5,2;t0,1,5,2;a0;a1;l2;");
        cut.handUp(1);
        due.answer("behind a brought one nothing comes", cut.mayCome(), 1);
        due.answer("lost", cut.count(7), 1);
        FeatherTasks deep = laid("t0,1,5,0;t0,1,5,0;t0,1,5,1;t0,1,5,2;t0,1,5,3;t0,1,5,4;t0,1,5,5;t0,1,5,6;a7;");
        due.answer("of a chain of eight, down", deep.mayCome(), 255);
    }

    private static void well() {
        due.promise("15 well");
        String three = "t0,1,5,0;t0,1,5,1;t0,1,5,2;a0;a1;a2;";
        wellIs(laid(three + "l3;"), 6, 0, 1, 2);
        wellIs(laid(three + "l2;"), 0);
        FeatherTasks x = laid(three + "l3;");
        x.ride(0);
        wellIs(x, 2, 1, 2);
        x.ride(2);
        wellIs(x, 1, 1);
        x.ride(1);
        wellIs(x, 1);
        FeatherTasks none = laid("t0,1,5,0;");
        wellIs(none, 1);
        FeatherTasks lost = laid("t0,1,5,0;a0;l1;t0,1,5,1;");
        lost.suggest(1);
        lost.handUp(0);
        lost.ride(1);
        wellIs(lost, 0);
        due.answer("well(9)", x.well(9), BAD);
        for (int far : NUMBERS_FAR_OFF) {
            due.answer("well(" + far + ")", x.well(far), BAD);
        }
        wellIs(laid("t0,1,5,2;t0,1,5,1;t0,1,5,0;t0,1,5,1;a3;a2;"), 6, 2, 0, 3, 1);
        FeatherTasks all = laid("t0,1,5,0;t0,1,5,1;t0,1,5,2;t0,1,5,3;t0,1,5,4;t0,1,5,5;t0,1,5,6;t0,1,5,7;"
            + "a7;a6;a5;a4;a3;a2;a1;a0;l8;");
        wellIs(all, 40320, 0, 1, 2, 3, 4, 5, 6, 7);
    }

    private static void wellByHelp() {
        due.promise("15 well");
        wellIs(laid("t0,1,0,0;h0,0;a0;"), 0);
        wellIs(withFriends("t0,1,0,0;a0;", 0), 1, 0);
        // Task 0 first takes friend 0 and, of any, friend 1, whom task 1 needs.
        wellIs(withFriends("t3,1,0,0;t0,1,1,1;a0;a1;", 0, 1, 2), 1, 1, 0);
        wellIs(withFriends("t3,1,0,0;t0,1,1,1;a0;a1;", 0, 2, 1), 2, 0, 1);
        // Task 2 is by day 10, so it can not be the last behind 11 days.
        wellIs(laid("t0,9,5,0;t0,2,5,1;t4,1,5,2;a0;a1;a2;"), 4, 0, 2, 1);
        wellIs(laid("t0,9,5,0;t0,1,5,1;t4,1,5,2;a0;a1;a2;"), 6, 0, 1, 2);
        // Of done ones no day is counted.
        wellIs(laid("t2,9,0,1;t0,5,5,0;a0;l5;"), 1, 0, 1);
        FeatherTasks cut = laid("t0,1,5,1;t0,9,5,1;a0;l9;");
        wellIs(cut, 0);
        cut.suggest(1);
        wellIs(cut, 0);
        FeatherTasks handed = laid("t0,1,0,1;t0,9,0,1;t0,2,5,2;a0;a2;l9;");
        wellIs(handed, 0);
        handed.handUp(0);
        wellIs(handed, 1, 2);
    }

    private static void fewestIs(FeatherTasks x, int crumbs, int set) {
        due.answer("fewest(0)", x.fewest(0), crumbs);
        due.answer("fewest(1)", x.fewest(1), set);
    }

    private static void fewest() {
        due.promise("16 fewest");
        fewestIs(laid("t0,1,0,0;h0,5;h0,5;h0,4;a0;"), 4, 4);
        fewestIs(laid("t0,1,0,0;h1,0;h0,5;h0,5;a0;"), 5, 2);
        fewestIs(laid("t0,1,0,0;h0,5;a0;c4;"), NONE, NONE);
        fewestIs(laid("t0,1,0,0;h0,5;a0;c5;"), 5, 1);
        fewestIs(laid("t0,1,0,0;h0,0;h0,0;a0;c0;"), 0, 1);
        fewestIs(laid("t0,1,5,0;h0,0;a0;"), 0, 0);
        fewestIs(laid("t0,1,5,0;h0,3;"), 0, 0);
        fewestIs(laid("t1,1,0,0;h0,3;h0,1;h0,2;a0;"), 3, 6);
        fewestIs(laid("t3,1,0,0;h0,2;h1,3;h2,3;a0;"), 5, 3);
        fewestIs(laid("t0,1,0,1;t0,1,1,1;h0,9;h1,9;h0,8;h1,8;a0;c16;"), 16, 12);
        fewestIs(laid("t0,1,0,1;t0,1,1,1;h0,9;h1,9;h0,8;h1,8;a0;c15;"), NONE, NONE);
        fewestIs(laid("t0,1,0,0;h0,1;a0;l1;t0,1,5,1;a1;"), NONE, NONE);
        FeatherTasks x = laid("t0,1,0,0;t0,1,0,1;h0,5;h0,1;h0,7;a0;a1;c20;");
        fewestIs(x, 6, 3);
        x.befriend(1);
        fewestIs(x, 5, 1);
        x.befriend(2);
        fewestIs(x, 0, 0);
        due.answer("fewest(2)", x.fewest(2), BAD);
        for (int far : NUMBERS_FAR_OFF) {
            due.answer("fewest(" + far + ")", x.fewest(far), BAD);
        }
        counts("nobody is made a friend by it", x, 2, 3, 2, 0, 2, 12);
        FeatherTasks lost = laid("t0,1,5,0;a0;l1;t0,1,5,1;a1;");
        fewestIs(lost, NONE, NONE);
        lost.handUp(0);
        due.answer("lost", lost.count(7), 1);
        fewestIs(lost, NONE, NONE);
        due.answer("fewest(2), lost", lost.fewest(2), BAD);
    }

    private static void step() {
        due.promise("17 step");
        FeatherTasks x = laid("t0,1,5,0;t0,1,5,1;t0,1,5,2;t0,1,5,3;a0;a1;a2;l3;");
        due.answer("step(0)", x.step(0), 2);
        due.answer("step(2)", x.step(2), 2);
        due.answer("step(3), not asked", x.step(3), 0);
        due.answer("step(4)", x.step(4), BAD);
        for (int far : NUMBERS_FAR_OFF) {
            due.answer("step(" + far + ")", x.step(far), BAD);
        }
        counts("nothing is ridden for by it", x, 4, 0, 3, 0, 0, 20, 0, 0, 0, 0);
        x.ride(0);
        due.answer("step(0), brought", x.step(0), 0);
        due.answer("step(1)", x.step(1), 1);
        FeatherTasks one = withFriends("t3,1,0,0;t0,1,1,1;a0;a1;", 0, 1, 2);
        due.answer("step(0), nobody for the other then", one.step(0), 0);
        due.answer("step(1)", one.step(1), 1);
        FeatherTasks late = laid("t0,1,5,1;t0,1,5,1;a0;l1;");
        due.answer("step(0), too late in the end", late.step(0), 0);
        FeatherTasks last = laid("t0,1,5,0;a0;l1;");
        due.answer("step(0), the whole row", last.step(0), 1);
        due.answer("step(0), none asked", laid("t0,1,5,0;").step(0), 0);
    }

    private static void worth() {
        due.promise("18 worth");
        FeatherTasks x = laid("t0,1,0,0;t0,1,0,1;h0,4;h0,6;h1,5;a0;a1;");
        due.answer("worth(0, 0), one of two", x.worth(0, 0), 0);
        due.answer("worth(0, 1)", x.worth(0, 1), 4);
        due.answer("worth(1, 1)", x.worth(1, 1), 6);
        due.answer("worth(2, 1)", x.worth(2, 1), 0);
        x.befriend(0);
        due.answer("worth(1, 0)", x.worth(1, 0), 2);
        due.answer("worth(1, 1)", x.worth(1, 1), 6);
        due.answer("worth(2, 0)", x.worth(2, 0), 0);
        due.answer("worth(0, 0), a friend", x.worth(0, 0), NO);
        due.answer("worth(0, 1), a friend", x.worth(0, 1), NO);
        due.answer("worth(0, 2), a friend", x.worth(0, 2), BAD);
        due.answer("worth(1, 2)", x.worth(1, 2), BAD);
        due.answer("worth(3, 0)", x.worth(3, 0), BAD);
        for (int far : NUMBERS_FAR_OFF) {
            due.answer("worth(" + far + ", 0)", x.worth(far, 0), BAD);
            due.answer("worth(1, " + far + ")", x.worth(1, far), BAD);
        }
        counts("nobody is made a friend by it", x, 2, 3, 2, 0, 1, 16);
        x.befriend(1);
        due.answer("worth(2, 0), with enough", x.worth(2, 0), 0);
        due.answer("worth(2, 1), with enough", x.worth(2, 1), 0);
        FeatherTasks poor = laid("t0,1,0,0;h0,5;h0,6;a0;c4;");
        due.answer("worth(0, 0), too dear", poor.worth(0, 0), 1);
        due.answer("worth(0, 1), too dear", poor.worth(0, 1), NONE);
        FeatherTasks half = laid("t0,1,0,0;h0,5;h0,6;a0;c5;");
        due.answer("worth(1, 1), the dearer one", half.worth(1, 1), 5);
        FeatherTasks more = withFriends("t3,1,0,0;t0,1,1,1;a0;a1;h2,1;", 0, 1);
        due.answer("well(0)", more.well(0), 0);
        more.undo();
        more.undo();
        more.befriend(1);
        more.befriend(2);
        due.answer("worth(0, 0)", more.worth(0, 0), 2);
    }

    private static void see() {
        due.promise("19 see");
        FeatherTasks x = laid("t0,1,5,0;t0,1,5,1;a0;a1;");
        due.answer("see(0, 1)", x.see(0, 1), 1);
        due.answer("see(1, 8)", x.see(1, 8), 2);
        due.answer("see(2, 1)", x.see(2, 1), BAD);
        due.answer("see(0, 0)", x.see(0, 0), BAD);
        due.answer("see(0, 9)", x.see(0, 9), BAD);
        for (int far : NUMBERS_FAR_OFF) {
            due.answer("see(" + far + ", 1)", x.see(far, 1), BAD);
            due.answer("see(0, " + far + ")", x.see(0, far), BAD);
        }
        for (int many = 3; many <= 6; many++) {
            due.answer("see(0, 1)", x.see(0, 1), many);
        }
        due.answer("see(0, 1), the seventh", x.see(0, 1), FULL);
        due.answer("see(2, 1), the seventh", x.see(2, 1), BAD);
        due.answer("count(8)", x.count(8), 6);
        due.answer("undo()", x.undo(), NO);
    }

    private static void forget() {
        due.promise("20 forget");
        FeatherTasks x = laid("t0,1,5,0;t0,1,5,1;a0;a1;");
        due.answer("forget()", x.forget(), 0);
        x.see(1, 1);
        x.see(0, 3);
        rowsAre(x, 0);
        due.answer("forget()", x.forget(), 2);
        due.answer("count(8)", x.count(8), 0);
        rowsAre(x, 2, 0, 1);
        due.answer("see(1, 1)", x.see(1, 1), 1);
        due.answer("forget()", x.forget(), 1);
        due.answer("forget()", x.forget(), 0);
    }

    private static void rows() {
        due.promise("21 rows");
        FeatherTasks x = laid("t0,1,5,0;t0,1,5,1;t0,1,5,2;t0,1,5,3;a0;a1;a2;");
        rowsAre(x, 6, 0, 1, 2);
        x.see(2, 1);
        rowsAre(x, 2, 2, 0, 1);
        x.see(0, 3);
        rowsAre(x, 1, 2, 1, 0);
        x.see(0, 3);
        rowsAre(x, 1, 2, 1, 0);
        wellIs(x, 6, 0, 1, 2);
        due.answer("step(0), whatever is seen", x.step(0), 2);
        due.answer("fewest(0), whatever is seen", x.fewest(0), 0);
        x.ride(0);
        rowsAre(x, 0);
        x.undo();
        rowsAre(x, 1, 2, 1, 0);
        x.see(1, 1);
        rowsAre(x, 0);
        x.forget();
        x.see(3, 1);
        rowsAre(x, 0);
        x.suggest(3);
        rowsAre(x, 6, 3, 0, 1, 2);
        x.ride(3);
        rowsAre(x, 0);
        x.forget();
        x.see(1, 1);
        rowsAre(x, 2, 1, 0, 2);
        x.ride(0);
        rowsAre(x, 1, 1, 2);
        x.see(2, 3);
        rowsAre(x, 0);
        due.answer("rows(9)", x.rows(9), BAD);
        for (int far : NUMBERS_FAR_OFF) {
            due.answer("rows(" + far + ")", x.rows(far), BAD);
        }
        groomsAre(x, 5, 1, 1);
        FeatherTasks none = laid("t0,1,5,0;");
        rowsAre(none, 1);
        none.see(0, 1);
        rowsAre(none, 0);
        wellIs(none, 1);
    }

    private static void forWhat() {
        due.promise("22 forWhat");
        FeatherTasks x = laid("t0,1,5,2;t0,1,5,2;t0,1,5,3;t0,1,5,3;t0,1,5,4;t0,1,5,4;t0,1,5,2;a0;a1;");
        due.answer("forWhat(0), asked", x.forWhat(0), 1);
        due.answer("forWhat(1), asked", x.forWhat(1), 2);
        due.answer("forWhat(2), of two that may come", x.forWhat(2), 3);
        due.answer("forWhat(3), not of itself", x.forWhat(3), 4);
        due.answer("forWhat(4), of one that may not come", x.forWhat(4), 0);
        due.answer("forWhat(5), of none", x.forWhat(5), 0);
        x.ride(0);
        due.answer("forWhat(0), brought", x.forWhat(0), NO);
        due.answer("forWhat(2), asked", x.forWhat(2), 4);
        x.undo();
        x.handUp(0);
        due.answer("forWhat(0), handed up", x.forWhat(0), NO);
        due.answer("forWhat(2), of the other", x.forWhat(2), 2);
        x.suggest(6);
        due.answer("forWhat(2), of a suggested one too", x.forWhat(2), 2 + 64);
        due.answer("forWhat(7)", x.forWhat(7), BAD);
        for (int far : NUMBERS_FAR_OFF) {
            due.answer("forWhat(" + far + ")", x.forWhat(far), BAD);
        }
        due.answer("forWhat(3) of the first months", new FeatherTasks().forWhat(3), 4);
    }

    private static void grooms() {
        due.promise("23 grooms");
        FeatherTasks one = laid("t0,1,5,0;t0,1,5,1;a0;l1;");
        groomsAre(one, 0, 1, 1);
        groomsAre(one, 3, 7, 10);
        groomsAre(one, 5, 1, 2);
        groomsAre(one, 8, 1, 5);
        groomsAre(one, 10, 0, 1);
        FeatherTasks two = laid("t0,1,5,0;t0,1,5,1;t0,1,5,2;a0;l2;");
        groomsAre(two, 1, 99, 100);
        groomsAre(two, 2, 24, 25);
        groomsAre(two, 5, 3, 4);
        groomsAre(two, 10, 0, 1);
        FeatherTasks whose = laid("t0,1,5,0;t0,1,5,2;t0,1,5,2;a0;l2;");
        groomsAre(whose, 1, 9, 10);
        groomsAre(laid("t0,1,5,0;t0,1,5,1;"), 7, 1, 1);
        groomsAre(laid("t0,1,5,0;t0,1,5,1;a0;a1;l1;"), 7, 0, 1);
        groomsAre(laid("t0,1,0,0;t0,1,5,1;h0,0;a0;"), 7, 0, 1);
        FeatherTasks eight = laid("t0,1,5,0;t0,1,5,1;t0,1,5,2;t0,1,5,3;t0,1,5,4;t0,1,5,5;t0,1,5,6;t0,1,5,7;l7;");
        groomsAre(eight, 1, 99999999, 100000000);
        groomsAre(eight, 5, 255, 256);
        FeatherTasks lost = laid("t0,1,5,0;t0,1,5,1;t0,1,5,2;a0;l2;");
        lost.handUp(0);
        due.answer("lost", lost.count(7), 1);
        groomsAre(lost, 0, 0, 1);
        groomsAre(lost, 5, 0, 1);
        due.answer("grooms(11, 0)", one.grooms(11, 0), BAD);
        due.answer("grooms(5, 2)", one.grooms(5, 2), BAD);
        for (int far : NUMBERS_FAR_OFF) {
            due.answer("grooms(" + far + ", 0)", one.grooms(far, 0), BAD);
            due.answer("grooms(5, " + far + ")", one.grooms(5, far), BAD);
        }
        counts("nothing is suggested by it", one, 2, 0, 1, 0, 0, 20, 0, 0, 0, 0);
    }

    /** The draws of king 0 are 0, then 20743, then 5149; the first of king 1 is 11401. */
    private static void king() {
        due.promise("24 king");
        kingIs(laid("t0,3,5,0;a0;"), 0, 1, 1, 3, 0);
        kingIs(laid("t0,3,5,0;a0;l2;"), 0, 1, 1, 3, 1);
        kingIs(laid("t0,3,5,0;"), 0, 1, 0, 0, 0);
        kingIs(laid("t0,3,5,0;"), 0, 2, 1, 3, 0);
        kingIs(laid("t0,3,0,0;h0,5;a0;"), 0, 1, 0, 0, 0);
        kingIs(laid("t0,3,0,0;h0,5;a0;"), 0, 2, 1, 3, 0);
        kingIs(laid("t0,3,5,0;h0,5;"), 0, 2, 0, 0, 0);
        kingIs(laid("t0,3,5,0;h0,5;"), 0, 3, 1, 3, 0);
        kingIs(laid("t0,3,5,0;h0,5;c4;"), 0, 2, 1, 3, 0);
        kingIs(laid("t0,1,5,0;t0,2,5,1;a0;a1;"), 0, 1, 1, 1, 0);
        kingIs(laid("t0,1,5,0;t0,2,5,1;a0;a1;"), 1, 1, 1, 2, 0);
        kingIs(laid("t0,1,5,0;t0,2,5,1;a0;a1;"), 0, 2, 2, 3, 0);
        // By 8, the draws 0, 20743, 5149 name helpers 0, 0, 1 of two: only the last one can help.
        kingIs(laid("t0,3,0,0;h1,0;h0,0;a0;"), 0, 3, 0, 0, 0);
        kingIs(laid("t0,3,0,0;h1,0;h0,0;a0;"), 0, 4, 1, 3, 0);
        kingIs(new FeatherTasks(), 5, 40, 6, 20, 0);
        FeatherTasks x = laid("t0,3,5,0;t0,1,5,1;a1;");
        x.handUp(1);
        kingIs(x, 0, 1, 1, 3, 0);
        counts("all stays as it was", x, 2, 0, 0, 1, 0, 20, 3, 0, 0, 1);
        kingIs(x, 9999, 40, 2, 6, 0);
        String call = "king ";
        due.answer(call + "z 10000", x.king(10000, 1, 0), BAD);
        due.answer(call + "n 0", x.king(0, 0, 0), BAD);
        due.answer(call + "n 41", x.king(0, 41, 0), BAD);
        due.answer(call + "what 3", x.king(0, 1, 3), BAD);
        for (int far : NUMBERS_FAR_OFF) {
            due.answer(call + "z " + far, x.king(far, 1, 0), BAD);
            due.answer(call + "n " + far, x.king(0, far, 0), BAD);
            due.answer(call + "what " + far, x.king(0, 1, far), BAD);
        }
    }

    private static void keep() {
        due.promise("25 keep");
        FeatherTasks x = laid("t0,1,5,0;t0,1,5,1;a0;");
        due.answer("keep()", x.keep(), 1);
        x.suggest(1);
        due.answer("keep()", x.keep(), 2);
        due.answer("keep(), the third", x.keep(), FULL);
        due.answer("count(10)", x.count(10), 2);
        due.answer("undo(), behind keep", x.undo(), 0);
        due.answer("count(10)", x.count(10), 2);
        due.answer("back()", x.back(), 1);
        due.answer("task(1, 4), as kept last", x.task(1, 4), 1);
        due.answer("keep()", x.keep(), 2);
        due.answer("keep(), the third", x.keep(), FULL);
    }

    private static void back() {
        due.promise("26 back");
        FeatherTasks x = laid("t0,1,0,1;t0,2,5,1;h0,3;a0;l9;");
        due.answer("back() of nothing", x.back(), NO);
        x.befriend(0);
        x.keep();
        x.ride(0);
        x.keep();
        x.ride(1);
        x.see(1, 2);
        x.write(';');
        counts("before", x, 2, 1, 0, 2, 0, 17, 3, 0, 1, 3, 2, 30);
        due.answer("back()", x.back(), 1);
        counts("back", x, 2, 1, 1, 1, 0, 17, 1, 0, 1, 0, 1, 30);
        due.answer("undo()", x.undo(), NO);
        taskIs(x, 1, 0, 2, 5, 1, 1, 0, 1);
        due.answer("handUp(1)", x.handUp(1), 6);
        due.answer("count(9)", x.count(9), 1);
        due.answer("back()", x.back(), 0);
        counts("back", x, 2, 1, 1, 0, 1, 17, 0, 0, 1, 0, 0, 30);
        helperIs(x, 0, 0, 3, 1, 0);
        due.answer("back() of no more", x.back(), NO);
        due.answer("rows(0), what is seen stays", x.rows(0), 1);
        due.answer("rows(2)", x.rows(2), 1);
        due.answer("fault(), the text stays", x.fault(), 29);
        x.ride(0);
        due.answer("a refused back undoes nothing", x.back(), NO);
        due.answer("count(9)", x.count(9), 1);
    }

    private static void count() {
        due.promise("27 count");
        FeatherTasks x = laid("t0,4,0,1;t0,2,5,1;t0,1,5,2;h0,3;h1,1;h2,2;a0;l4;c9;");
        counts("laid", x, 3, 3, 1, 0, 0, 9, 0, 0, 0, 0, 0, 51, BAD);
        x.befriend(0);
        x.befriend(2);
        counts("two friends", x, 3, 3, 1, 0, 2, 4, 0, 0, 0, 2, 0, 51);
        x.ride(0);
        x.suggest(2);
        counts("one ridden for", x, 3, 3, 2, 1, 1, 4, 4, 0, 0, 4, 0, 51);
        x.keep();
        x.see(0, 1);
        x.handUp(2);
        counts("one handed up", x, 3, 3, 1, 2, 1, 4, 7, 1, 1, 5, 1, 51);
        for (int far : NUMBERS_FAR_OFF) {
            due.answer("count(" + far + ")", x.count(far), BAD);
        }
    }
}
