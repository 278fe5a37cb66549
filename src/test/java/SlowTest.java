/** Runs of calls drawn by number, each answer of FeatherTasks held against that of SlowTasks. */
public final class SlowTest {
    private static final int RUNS = 2500;
    private static final int CALLS = 90;
    private static final int CROWDED_RUNS = 60;
    private static final Due due = new Due("SlowTest");

    private long seed;
    private final FeatherTasks x = new FeatherTasks();
    private final SlowTasks slow = new SlowTasks();
    private final StringBuilder told = new StringBuilder();

    private SlowTest(int run) {
        seed = run * 7_777_777L + 12345;
    }

    public static void main(String[] args) {
        for (int run = 0; run < RUNS && due.allRight(); run++) {
            due.promise("run " + run);
            new SlowTest(run).go(run);
        }
        for (int run = 0; run < CROWDED_RUNS && due.allRight(); run++) {
            due.promise("crowded run " + run);
            new SlowTest(run).goCrowded();
        }
        due.end();
    }

    private int draw(int below) {
        seed = seed * 6364136223846793005L + 1442695040888963407L;
        return (int) ((seed >>> 33) % below);
    }

    private boolean oneOf(int many) {
        return draw(many) == 0;
    }

    private void same(String call, int got, int want) {
        told.append(call).append(' ');
        due.answer(got == want ? call : told + "<- this", got, want);
    }

    private void go(int run) {
        if (!oneOf(8)) {
            layText(drawText());
        }
        for (int call = 0; call < CALLS && due.allRight(); call++) {
            oneCall();
        }
        for (int what = 0; what <= 12; what++) {
            same("count(" + what + ")", x.count(what), slow.count(what));
        }
        for (int t = 0; t < 8; t++) {
            for (int what = 4; what <= 6; what++) {
                same("task(" + t + "," + what + ")", x.task(t, what), slow.task(t, what));
            }
        }
    }

    private void layText(String text) {
        same("wipe()", x.wipe(), slow.wipe());
        for (int i = 0; i < text.length(); i++) {
            same("write(" + text.charAt(i) + ")", x.write(text.charAt(i)), slow.write(text.charAt(i)));
        }
        same("fault()", x.fault(), slow.fault());
        same("lay()", x.lay(), slow.lay());
    }

    /** All tasks, all helpers, nearly all asked: then the search has the most to tell apart. */
    private void goCrowded() {
        layText(drawCrowdedText());
        same("fewest(1)", x.fewest(1), slow.fewest(1));
        same("worth(6,1)", x.worth(6, 1), slow.worth(6, 1));
        for (int h = 0; h < 7; h++) {
            same("befriend(" + h + ")", x.befriend(h), slow.befriend(h));
        }
        for (int k = 0; k <= 8; k += 2) {
            same("well(" + k + ")", x.well(k), slow.well(k));
        }
        int t = draw(8);
        same("step(" + t + ")", x.step(t), slow.step(t));
        int n = 1 + draw(8);
        same("see(" + t + "," + n + ")", x.see(t, n), slow.see(t, n));
        same("rows(0)", x.rows(0), slow.rows(0));
        same("rows(1)", x.rows(1), slow.rows(1));
    }

    private String drawCrowdedText() {
        StringBuilder text = new StringBuilder();
        int kinds = 1 + draw(5);
        for (int t = 0; t < 8; t++) {
            int kind = oneOf(3) ? 3 : draw(5);
            int help = oneOf(2) ? 5 : draw(kinds);
            text.append('t').append(kind).append(',').append(draw(3)).append(',').append(help).append(',')
                .append(oneOf(2) ? t : draw(8)).append(';');
        }
        for (int h = 0; h < 7; h++) {
            text.append('h').append(draw(kinds)).append(',').append(draw(3)).append(';');
        }
        for (int t = 0; t < 8; t++) {
            if (!oneOf(8)) {
                text.append('a').append(t).append(';');
            }
        }
        return text.append("l60;").toString();
    }

    private String drawText() {
        String text = drawFaultlessText();
        return oneOf(6) ? spoilt(text) : text;
    }

    /** Few tasks need help of a kind that nobody has, so that rows often end well. */
    private String drawFaultlessText() {
        StringBuilder text = new StringBuilder();
        int tasks = oneOf(12) ? 7 + draw(2) : 1 + draw(6);
        int helpers = oneOf(4) ? 0 : draw(8);
        int kinds = 1 + draw(5);
        int longest = oneOf(3) ? 10 : 1 + draw(5);
        for (int t = 0; t < tasks; t++) {
            int help = oneOf(2) ? 5 : draw(kinds);
            int kind = tasks > 6 && oneOf(2) ? 3 : draw(5);
            text.append('t').append(kind).append(',').append(draw(longest)).append(',').append(help).append(',')
                .append(oneOf(3) ? t : draw(tasks)).append(';');
        }
        int dearest = oneOf(3) ? 21 : 1 + draw(6);
        for (int h = 0; h < helpers; h++) {
            text.append('h').append(draw(kinds)).append(',').append(draw(dearest)).append(';');
        }
        for (int t = 0; t < tasks; t++) {
            if (oneOf(2)) {
                text.append('a').append(draw(tasks)).append(';');
            }
        }
        if (!oneOf(3)) {
            text.append('c').append(oneOf(2) ? draw(100) : draw(15)).append(';');
        }
        if (!oneOf(3)) {
            text.append('l').append(1 + (oneOf(2) ? draw(60) : draw(20))).append(';');
        }
        return text.toString();
    }

    private String spoilt(String text) {
        StringBuilder spoilt = new StringBuilder(text);
        String letters = "thacl0123456789,;x ";
        for (int i = draw(3); i >= 0 && spoilt.length() > 0; i--) {
            int at = draw(spoilt.length());
            char letter = letters.charAt(draw(letters.length()));
            switch (draw(3)) {
                case 0: spoilt.setCharAt(at, letter); break;
                case 1: spoilt.insert(at, letter); break;
                default: spoilt.deleteCharAt(at);
            }
        }
        return spoilt.toString();
    }

    /** 0 to below - 1, and now and then a number beside these. */
    private int near(int below) {
        if (!oneOf(25)) {
            return draw(below);
        }
        int[] far = {-1, below, below + 1, Integer.MIN_VALUE, Integer.MAX_VALUE, 31, 32, 256, -256};
        return far[draw(far.length)];
    }

    private int oneTask() {
        return near(Math.max(1, slow.count(0)));
    }

    private int oneHelper() {
        return near(Math.max(1, slow.count(1)));
    }

    private void oneCall() {
        int kind = draw(100);
        if (kind < 40) {
            oneRide();
        } else if (kind < 60) {
            oneLook();
        } else if (kind < 96) {
            oneThought();
        } else if (kind == 96) {
            int letter = oneOf(3) ? near(127) : "t0,1,5,0;"
                .charAt(draw(9));
            same("write(" + letter + ")", x.write(letter), slow.write(letter));
        } else if (kind == 97) {
            same("lay()", x.lay(), slow.lay());
        } else if (kind == 98) {
            same("fault()", x.fault(), slow.fault());
        } else if (oneOf(3)) {
            layText(drawText());
        }
    }

    private void oneRide() {
        int t = oneTask();
        int h = oneHelper();
        switch (draw(11)) {
            case 0: case 1: case 2: same("befriend(" + h + ")", x.befriend(h), slow.befriend(h)); break;
            case 3: case 4: case 5: same("ride(" + t + ")", x.ride(t), slow.ride(t)); break;
            case 6: same("suggest(" + t + ")", x.suggest(t), slow.suggest(t)); break;
            case 7: same("handUp(" + t + ")", x.handUp(t), slow.handUp(t)); break;
            case 8: case 9: same("undo()", x.undo(), slow.undo()); break;
            default:
                if (oneOf(2)) {
                    same("keep()", x.keep(), slow.keep());
                } else {
                    same("back()", x.back(), slow.back());
                }
        }
    }

    private void oneLook() {
        int t = oneTask();
        int h = oneHelper();
        switch (draw(4)) {
            case 0: int w = near(7); same("task(" + t + "," + w + ")", x.task(t, w), slow.task(t, w)); break;
            case 1: int v = near(4); same("helper(" + h + "," + v + ")", x.helper(h, v), slow.helper(h, v)); break;
            case 2: same("help(" + t + ")", x.help(t), slow.help(t)); break;
            default: int c = near(12); same("count(" + c + ")", x.count(c), slow.count(c));
        }
    }

    private void oneThought() {
        int t = oneTask();
        int h = oneHelper();
        int k = near(9);
        int what = near(2);
        switch (draw(11)) {
            case 0: same("mayCome()", x.mayCome(), slow.mayCome()); break;
            case 1: same("well(" + k + ")", x.well(k), slow.well(k)); break;
            case 2: same("fewest(" + what + ")", x.fewest(what), slow.fewest(what)); break;
            case 3: same("step(" + t + ")", x.step(t), slow.step(t)); break;
            case 4: same("worth(" + h + "," + what + ")", x.worth(h, what), slow.worth(h, what)); break;
            case 5:
                int n = oneOf(2) ? 1 + draw(3) : near(9);
                same("see(" + t + "," + n + ")", x.see(t, n), slow.see(t, n));
                break;
            case 6:
                if (oneOf(3)) {
                    same("forget()", x.forget(), slow.forget());
                }
                break;
            case 7: same("rows(" + k + ")", x.rows(k), slow.rows(k)); break;
            case 8: same("forWhat(" + t + ")", x.forWhat(t), slow.forWhat(t)); break;
            case 9:
                int tenths = near(11);
                same("grooms(" + tenths + "," + what + ")", x.grooms(tenths, what), slow.grooms(tenths, what));
                break;
            default:
                int z = near(10000);
                int steps = oneOf(30) ? near(41) : 1 + draw(40);
                int of = near(3);
                same("king(" + z + "," + steps + "," + of + ")", x.king(z, steps, of), slow.king(z, steps, of));
        }
    }
}
