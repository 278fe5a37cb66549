import java.math.BigInteger;
import java.util.ArrayDeque;
import java.util.ArrayList;
import java.util.Deque;
import java.util.List;
import java.util.regex.Matcher;
import java.util.regex.Pattern;

/**
 * The document once more, as slowly and plainly as it can be written: sets are sets of names, every row is listed.
 * It shares nothing with FeatherTasks, so that a slip in one of the two shows as a difference.
 */
final class SlowTasks {
    static final int BAD = -1, NO = -2, FULL = -3, NONE = -4;
    private static final String FIRST = "t0,3,0,1;t1,5,1,2;t3,4,2,3;t4,2,5,3;t2,9,4,5;t0,6,3,4;"
        + "h0,3;h1,4;h1,6;h2,5;h4,2;h3,7;h0,1;a0;a5;c30;l28;";
    private static final Pattern ITEM =
        Pattern.compile("(?:t(\\d{1,2}),(\\d{1,2}),(\\d{1,2}),(\\d{1,2})|h(\\d{1,2}),(\\d{1,2})|([acl])(\\d{1,2}));");

    private static final class Tale {
        final List<int[]> tasks = new ArrayList<>();
        final List<int[]> helpers = new ArrayList<>();
        final List<Integer> asked = new ArrayList<>();
        int crumbs = 20;
        int last = 30;
    }

    private static final class State {
        boolean[] asked;
        boolean[] brought;
        boolean[] friend;
        boolean[] used;
        int crumbs;
        int day;

        State copy() {
            State s = new State();
            s.asked = asked.clone();
            s.brought = brought.clone();
            s.friend = friend.clone();
            s.used = used.clone();
            s.crumbs = crumbs;
            s.day = day;
            return s;
        }
    }

    private final StringBuilder text = new StringBuilder();
    private Tale tale = new Tale();
    private State now;
    private final Deque<State> past = new ArrayDeque<>();
    private final Deque<State> kept = new ArrayDeque<>();
    private final List<int[]> seen = new ArrayList<>();

    SlowTasks() {
        faultOf(FIRST, tale);
        now = atFirst();
    }

    private State atFirst() {
        State s = new State();
        s.asked = new boolean[tale.tasks.size()];
        s.brought = new boolean[tale.tasks.size()];
        s.friend = new boolean[tale.helpers.size()];
        s.used = new boolean[tale.helpers.size()];
        for (int t : tale.asked) {
            s.asked[t] = true;
        }
        s.crumbs = tale.crumbs;
        return s;
    }

    private static int faultOf(String text, Tale tale) {
        int at = 0;
        while (at < text.length()) {
            Matcher m = ITEM.matcher(text).region(at, text.length());
            if (!m.lookingAt() || !takes(tale, m)) {
                return at;
            }
            at = m.end();
        }
        return NONE;
    }

    private static boolean takes(Tale tale, Matcher m) {
        if (m.group(1) != null) {
            int[] task = {number(m, 1), number(m, 2), number(m, 3), number(m, 4)};
            tale.tasks.add(task);
            return tale.tasks.size() <= 8 && task[0] <= 4 && task[1] <= 9 && task[2] <= 5 && task[3] <= 7;
        }
        if (m.group(5) != null) {
            int[] helper = {number(m, 5), number(m, 6)};
            tale.helpers.add(helper);
            return tale.helpers.size() <= 7 && helper[0] <= 4 && helper[1] <= 20;
        }
        int n = number(m, 8);
        if (m.group(7).equals("a")) {
            tale.asked.add(n);
            return n < tale.tasks.size();
        }
        if (m.group(7).equals("c")) {
            tale.crumbs = n;
            return true;
        }
        tale.last = n;
        return n >= 1 && n <= 60;
    }

    private static int number(Matcher m, int group) {
        return Integer.parseInt(m.group(group));
    }

    private boolean noTask(int t) {
        return t < 0 || t >= tale.tasks.size();
    }

    private boolean noHelper(int h) {
        return h < 0 || h >= tale.helpers.size();
    }

    private boolean lost(State s) {
        return s.day > tale.last;
    }

    int write(int letter) {
        if (letter < 32 || letter > 126) {
            return BAD;
        }
        if (text.length() == 200) {
            return FULL;
        }
        text.append((char) letter);
        return text.length();
    }

    int wipe() {
        int was = text.length();
        text.setLength(0);
        return was;
    }

    int fault() {
        return faultOf(text.toString(), new Tale());
    }

    int lay() {
        Tale read = new Tale();
        if (faultOf(text.toString(), read) != NONE || read.tasks.isEmpty()) {
            return NO;
        }
        for (int[] task : read.tasks) {
            if (task[3] >= read.tasks.size()) {
                return NO;
            }
        }
        tale = read;
        now = atFirst();
        past.clear();
        kept.clear();
        seen.clear();
        return tale.tasks.size();
    }

    int task(int t, int what) {
        if (noTask(t) || what < 0 || what > 6) {
            return BAD;
        }
        if (what <= 3) {
            return tale.tasks.get(t)[what];
        }
        boolean so = what == 4 ? now.asked[t] : what == 5 ? now.brought[t] : company(now, t) != null;
        return so ? 1 : 0;
    }

    int helper(int h, int what) {
        if (noHelper(h) || what < 0 || what > 3) {
            return BAD;
        }
        if (what <= 1) {
            return tale.helpers.get(h)[what];
        }
        return (what == 2 ? now.friend[h] : now.used[h]) ? 1 : 0;
    }

    /** Who would go along, or null when the task can't be ridden for. */
    private List<Integer> company(State s, int t) {
        int[] task = tale.tasks.get(t);
        if (lost(s) || !s.asked[t] || s.brought[t] || task[0] == 4 && s.day > 10) {
            return null;
        }
        List<Integer> wanted = new ArrayList<>();
        if (task[2] != 5 && task[0] != 2) {
            wanted.add(task[2]);
            if (task[0] == 1) {
                wanted.add(task[2]);
            }
        }
        if (task[0] == 3) {
            wanted.add(-1);
        }
        List<Integer> along = new ArrayList<>();
        for (int kind : wanted) {
            int found = -1;
            for (int h = tale.helpers.size() - 1; h >= 0; h--) {
                boolean free = s.friend[h] && !s.used[h] && !along.contains(h);
                if (free && (kind == -1 || tale.helpers.get(h)[0] == kind)) {
                    found = h;
                }
            }
            if (found == -1) {
                return null;
            }
            along.add(found);
        }
        return along;
    }

    int help(int t) {
        if (noTask(t)) {
            return BAD;
        }
        List<Integer> along = company(now, t);
        return along == null ? NO : bits(along);
    }

    private static int bits(List<Integer> names) {
        int set = 0;
        for (int name : names) {
            set |= 1 << name;
        }
        return set;
    }

    /** How it stands behind the ride, or null. */
    private State ridden(State s, int t) {
        List<Integer> along = company(s, t);
        if (along == null) {
            return null;
        }
        State after = s.copy();
        for (int h : along) {
            after.used[h] = true;
        }
        int[] task = tale.tasks.get(t);
        after.day += task[0] == 2 ? 0 : task[1];
        after.brought[t] = true;
        if (task[3] != t && !after.brought[task[3]]) {
            after.asked[task[3]] = true;
        }
        return after;
    }

    private State befriended(State s, int h) {
        if (s.friend[h] || s.crumbs < tale.helpers.get(h)[1]) {
            return null;
        }
        State after = s.copy();
        after.friend[h] = true;
        after.crumbs -= tale.helpers.get(h)[1];
        return after;
    }

    private State suggested(State s, int t) {
        if (lost(s) || s.asked[t] || s.brought[t]) {
            return null;
        }
        State after = s.copy();
        after.asked[t] = true;
        return after;
    }

    private State handedUp(State s, int t) {
        if (lost(s) || !s.asked[t] || s.brought[t]) {
            return null;
        }
        State after = s.copy();
        after.brought[t] = true;
        after.day += tale.tasks.get(t)[1] * 2 + 1;
        return after;
    }

    private boolean goTo(State after) {
        if (after == null) {
            return false;
        }
        past.addLast(now);
        if (past.size() > 8) {
            past.removeFirst();
        }
        now = after;
        return true;
    }

    private int open(State s) {
        int open = 0;
        for (int t = 0; t < s.asked.length; t++) {
            open += s.asked[t] && !s.brought[t] ? 1 : 0;
        }
        return open;
    }

    int befriend(int h) {
        return noHelper(h) ? BAD : goTo(befriended(now, h)) ? now.crumbs : NO;
    }

    int ride(int t) {
        return noTask(t) ? BAD : goTo(ridden(now, t)) ? now.day : NO;
    }

    int suggest(int t) {
        return noTask(t) ? BAD : goTo(suggested(now, t)) ? open(now) : NO;
    }

    int handUp(int t) {
        return noTask(t) ? BAD : goTo(handedUp(now, t)) ? now.day : NO;
    }

    int undo() {
        if (past.isEmpty()) {
            return NO;
        }
        now = past.removeLast();
        return past.size();
    }

    int mayCome() {
        List<Integer> come = new ArrayList<>();
        for (int t = 0; t < now.asked.length; t++) {
            if (now.asked[t] && !now.brought[t]) {
                come.add(t);
            }
        }
        for (int i = 0; i < come.size(); i++) {
            int next = tale.tasks.get(come.get(i))[3];
            if (!now.brought[next] && !come.contains(next)) {
                come.add(next);
            }
        }
        return bits(come);
    }

    /** All rows that end well, lowest first. */
    private List<List<Integer>> rowsWell(State s) {
        List<List<Integer>> rows = new ArrayList<>();
        addRows(s, new ArrayList<>(), rows, Integer.MAX_VALUE);
        return rows;
    }

    private boolean endsWell(State s) {
        List<List<Integer>> rows = new ArrayList<>();
        addRows(s, new ArrayList<>(), rows, 1);
        return !rows.isEmpty();
    }

    private void addRows(State s, List<Integer> row, List<List<Integer>> rows, int enough) {
        if (rows.size() >= enough) {
            return;
        }
        if (open(s) == 0) {
            if (!lost(s)) {
                rows.add(new ArrayList<>(row));
            }
            return;
        }
        for (int t = 0; t < tale.tasks.size(); t++) {
            State after = ridden(s, t);
            if (after != null) {
                row.add(t);
                addRows(after, row, rows, enough);
                row.remove(row.size() - 1);
            }
        }
    }

    private static int told(List<List<Integer>> rows, int k) {
        if (k == 0) {
            return rows.size();
        }
        return rows.isEmpty() || rows.get(0).size() < k ? NONE : rows.get(0).get(k - 1);
    }

    int well(int k) {
        return k < 0 || k > 8 ? BAD : told(rowsWell(now), k);
    }

    private int[] fewestOf(State s) {
        int[] best = null;
        for (int set = 0; set < 1 << tale.helpers.size(); set++) {
            State with = s;
            for (int h = 0; h < tale.helpers.size() && with != null; h++) {
                if ((set >> h & 1) == 1) {
                    with = befriended(with, h);
                }
            }
            if (with != null && (best == null || s.crumbs - with.crumbs < best[0]) && endsWell(with)) {
                best = new int[] {s.crumbs - with.crumbs, set};
            }
        }
        return best;
    }

    int fewest(int what) {
        if (what != 0 && what != 1) {
            return BAD;
        }
        int[] best = fewestOf(now);
        return best == null ? NONE : best[what];
    }

    int step(int t) {
        if (noTask(t)) {
            return BAD;
        }
        int begin = 0;
        for (List<Integer> row : rowsWell(now)) {
            begin += !row.isEmpty() && row.get(0) == t ? 1 : 0;
        }
        return begin;
    }

    int worth(int h, int what) {
        if (noHelper(h) || what != 0 && what != 1) {
            return BAD;
        }
        if (now.friend[h]) {
            return NO;
        }
        State with = now.copy();
        with.friend[h] = true;
        if (what == 0) {
            return Math.max(0, rowsWell(with).size() - rowsWell(now).size());
        }
        int[] before = fewestOf(now);
        return before == null ? NONE : before[0] - fewestOf(with)[0];
    }

    int see(int t, int n) {
        if (noTask(t) || n < 1 || n > 8) {
            return BAD;
        }
        if (seen.size() == 6) {
            return FULL;
        }
        seen.add(new int[] {t, n});
        return seen.size();
    }

    int forget() {
        int were = seen.size();
        seen.clear();
        return were;
    }

    int rows(int k) {
        if (k < 0 || k > 8) {
            return BAD;
        }
        List<List<Integer>> rows = rowsWell(now);
        rows.removeIf(row -> {
            for (int[] s : seen) {
                if (row.size() < s[1] || row.get(s[1] - 1) != s[0]) {
                    return true;
                }
            }
            return false;
        });
        return told(rows, k);
    }

    int forWhat(int t) {
        if (noTask(t)) {
            return BAD;
        }
        if (now.brought[t]) {
            return NO;
        }
        if (now.asked[t]) {
            return 1 << t;
        }
        List<Integer> whose = new ArrayList<>();
        for (int other = 0; other < tale.tasks.size(); other++) {
            if (other != t && tale.tasks.get(other)[3] == t && (mayCome() >> other & 1) == 1) {
                whose.add(other);
            }
        }
        return bits(whose);
    }

    int grooms(int x, int part) {
        if (x < 0 || x > 10 || part < 0 || part > 1) {
            return BAD;
        }
        BigInteger[] chance = {BigInteger.ZERO, BigInteger.ONE};
        addChances(now, 0, x, BigInteger.ONE, chance, 0);
        BigInteger shared = chance[0].gcd(chance[1]);
        return chance[part].divide(shared).intValueExact();
    }

    private void addChances(State s, int t, int x, BigInteger weight, BigInteger[] chance, int coins) {
        if (t == tale.tasks.size()) {
            BigInteger below = BigInteger.TEN.pow(coins);
            if (chance[1].compareTo(below) < 0) {
                chance[1] = below;
            }
            if (weight.signum() > 0 && endsWell(s)) {
                chance[0] = chance[0].add(weight);
            }
            return;
        }
        State with = suggested(s, t);
        if (with == null) {
            addChances(s, t + 1, x, weight, chance, coins);
            return;
        }
        addChances(with, t + 1, x, weight.multiply(BigInteger.valueOf(x)), chance, coins + 1);
        addChances(s, t + 1, x, weight.multiply(BigInteger.valueOf(10 - x)), chance, coins + 1);
    }

    int king(int z, int n, int what) {
        if (z < 0 || z > 9999 || n < 1 || n > 40 || what < 0 || what > 2) {
            return BAD;
        }
        State s = now;
        for (int k = 0; k < n; k++) {
            BigInteger x = BigInteger.valueOf(7919).multiply(BigInteger.valueOf(z))
                .add(BigInteger.valueOf(6151L * k)).add(BigInteger.ONE);
            int draw = x.multiply(x).mod(BigInteger.valueOf(65521)).intValueExact() / 2;
            int t = draw % tale.tasks.size();
            State after = ridden(s, t);
            if (after == null && !tale.helpers.isEmpty()) {
                after = befriended(s, draw / 8 % tale.helpers.size());
            }
            if (after == null) {
                after = suggested(s, t);
            }
            s = after == null ? s : after;
        }
        int brought = 0;
        for (boolean so : s.brought) {
            brought += so ? 1 : 0;
        }
        return what == 0 ? brought : what == 1 ? s.day : lost(s) ? 1 : 0;
    }

    int keep() {
        if (kept.size() == 2) {
            return FULL;
        }
        kept.addLast(now);
        return kept.size();
    }

    int back() {
        if (kept.isEmpty()) {
            return NO;
        }
        now = kept.removeLast();
        past.clear();
        return kept.size();
    }

    int count(int what) {
        int brought = 0;
        int free = 0;
        for (boolean so : now.brought) {
            brought += so ? 1 : 0;
        }
        for (int h = 0; h < now.friend.length; h++) {
            free += now.friend[h] && !now.used[h] ? 1 : 0;
        }
        int[] all = {tale.tasks.size(), tale.helpers.size(), open(now), brought, free, now.crumbs, now.day,
            lost(now) ? 1 : 0, seen.size(), past.size(), kept.size(), text.length()};
        return what < 0 || what >= all.length ? BAD : all[what];
    }
}
