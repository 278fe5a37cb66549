/** Tasks, helpers and days of a king's feather tale, told in a text; README.md tells how to use it. */
public final class FeatherTasks {

    public static final int BAD = -1, NO = -2, FULL = -3, NONE = -4;

    private static final int MOST_TASKS = 8;
    private static final int MOST_HELPERS = 7;
    private static final int HELP_KINDS = 5;
    private static final int NO_HELP = 5;
    private static final int MOST_LETTERS = 200;
    private static final int MOST_SEEN = 6;
    private static final int MOST_UNDONE = 8;
    private static final int MOST_KEPT = 2;
    private static final int LATEST_START = 10;
    private static final int TASK_SETS = 256;
    private static final int HELPER_SETS = 128;

    private static final int PLAIN = 0;
    private static final int IMPOSSIBLE = 1;
    private static final int DONE = 2;
    private static final int FOR_TWO = 3;
    private static final int BY_A_DAY = 4;

    private static final String FIRST_MONTHS =
        "t0,3,0,1;t1,5,1,2;t3,4,2,3;t4,2,5,3;t2,9,4,5;t0,6,3,4;h0,3;h1,4;h1,6;h2,5;h4,2;h3,7;h0,1;a0;a5;c30;l28;";

    private final char[] text;
    private int letters;
    private Months months;
    private Months spare;
    private final Standing now;
    private final Standing trial;
    private final Pile undoable;
    private final Pile kept;
    private final Seen seen;
    private final Seen unseen;
    private final Search search;

    public FeatherTasks() {
        text = new char[MOST_LETTERS];
        months = new Months();
        spare = new Months();
        now = new Standing();
        trial = new Standing();
        undoable = new Pile(MOST_UNDONE);
        kept = new Pile(MOST_KEPT);
        seen = new Seen();
        unseen = new Seen();
        search = new Search(months, unseen);
        char[] first = FIRST_MONTHS.toCharArray();
        months.readFrom(first, first.length);
        now.begin(months);
    }

    // ---- months

    public int write(int letter) {
        if (letter < 32 || letter > 126) {
            return BAD;
        }
        if (letters < 0 || letters >= text.length) {
            return FULL;
        }
        text[letters] = (char) letter;
        letters++;
        return letters;
    }

    public int wipe() {
        int length = letters;
        letters = 0;
        return length;
    }

    public int fault() {
        return spare.readFrom(text, letters);
    }

    public int lay() {
        if (spare.readFrom(text, letters) != NONE || !spare.canBeLaid()) {
            return NO;
        }
        Months laid = spare;
        spare = months;
        months = laid;
        now.begin(months);
        undoable.clear();
        kept.clear();
        seen.clear();
        return months.tasks;
    }

    public int task(int t, int what) {
        if (!months.hasTask(t)) {
            return BAD;
        }
        switch (what) {
            case 0: return months.kindOf(t);
            case 1: return months.daysOf(t);
            case 2: return months.helpKindOf(t);
            case 3: return months.nextOf(t);
            case 4: return oneIf((now.asked & bit(t)) != 0);
            case 5: return oneIf((now.brought & bit(t)) != 0);
            case 6: return oneIf(now.helpersFor(months, t) >= 0);
            default: return BAD;
        }
    }

    public int helper(int h, int what) {
        if (!months.hasHelper(h)) {
            return BAD;
        }
        switch (what) {
            case 0: return months.helperKindOf(h);
            case 1: return months.priceOf(h);
            case 2: return oneIf((now.friends & bit(h)) != 0);
            case 3: return oneIf((now.used & bit(h)) != 0);
            default: return BAD;
        }
    }

    public int help(int t) {
        if (!months.hasTask(t)) {
            return BAD;
        }
        return now.helpersFor(months, t);
    }

    // ---- rides

    public int befriend(int h) {
        if (!months.hasHelper(h)) {
            return BAD;
        }
        long before = now.packed();
        if (!now.tryBefriend(months, h)) {
            return NO;
        }
        undoable.put(before);
        return now.crumbs;
    }

    public int ride(int t) {
        if (!months.hasTask(t)) {
            return BAD;
        }
        long before = now.packed();
        if (!now.tryRide(months, t)) {
            return NO;
        }
        undoable.put(before);
        return now.day;
    }

    public int suggest(int t) {
        if (!months.hasTask(t)) {
            return BAD;
        }
        long before = now.packed();
        if (!now.trySuggest(months, t)) {
            return NO;
        }
        undoable.put(before);
        return Integer.bitCount(now.openTasks());
    }

    public int handUp(int t) {
        if (!months.hasTask(t)) {
            return BAD;
        }
        long before = now.packed();
        if (!now.tryHandUp(months, t)) {
            return NO;
        }
        undoable.put(before);
        return now.day;
    }

    public int undo() {
        if (undoable.size < 1) {
            return NO;
        }
        now.unpack(undoable.takeLatest());
        return undoable.size;
    }

    // ---- what may come

    public int mayCome() {
        return now.tasksToCome(months);
    }

    public int well(int k) {
        if (k < 0 || k > MOST_TASKS) {
            return BAD;
        }
        return k == 0 ? search.waysOf(months, now, unseen) : search.placeInFirst(months, now, unseen, k);
    }

    public int fewest(int what) {
        if (what < 0 || what > 1) {
            return BAD;
        }
        int set = search.fewestSet(months, now);
        if (set < 0) {
            return NONE;
        }
        return what == 0 ? months.priceOfSet(set) : set;
    }

    public int step(int t) {
        if (!months.hasTask(t)) {
            return BAD;
        }
        trial.unpack(now.packed());
        if (!trial.tryRide(months, t)) {
            return 0;
        }
        return search.waysOf(months, trial, unseen);
    }

    public int worth(int h, int what) {
        if (!months.hasHelper(h) || what < 0 || what > 1) {
            return BAD;
        }
        if ((now.friends & bit(h)) != 0) {
            return NO;
        }
        trial.unpack(now.packed());
        trial.friends |= bit(h);
        if (what == 0) {
            int without = search.waysOf(months, now, unseen);
            return Math.max(0, search.waysOf(months, trial, unseen) - without);
        }
        int without = search.fewestSet(months, now);
        int with = search.fewestSet(months, trial);
        if (without < 0 || with < 0) {
            return NONE;
        }
        return months.priceOfSet(without) - months.priceOfSet(with);
    }

    // ---- what was brought

    public int see(int t, int n) {
        if (!months.hasTask(t) || n < 1 || n > MOST_TASKS) {
            return BAD;
        }
        if (seen.size >= MOST_SEEN) {
            return FULL;
        }
        seen.add(t, n);
        return seen.size;
    }

    public int forget() {
        int were = seen.size;
        seen.clear();
        return were;
    }

    public int rows(int k) {
        if (k < 0 || k > MOST_TASKS) {
            return BAD;
        }
        return k == 0 ? search.waysOf(months, now, seen) : search.placeInFirst(months, now, seen, k);
    }

    public int forWhat(int t) {
        if (!months.hasTask(t)) {
            return BAD;
        }
        if ((now.brought & bit(t)) != 0) {
            return NO;
        }
        if ((now.asked & bit(t)) != 0) {
            return bit(t);
        }
        return months.tasksThatAsk(t) & now.tasksToCome(months);
    }

    // ---- grooms, kings

    public int grooms(int x, int part) {
        if (x < 0 || x > 10 || part < 0 || part > 1) {
            return BAD;
        }
        int can = now.tasksToSuggest(months);
        int above = chancesOfTen(can, x);
        int below = power(10, Integer.bitCount(can));
        int shared = commonDivisor(above, below);
        if (shared < 1) {
            return part;
        }
        return part == 0 ? above / shared : below / shared;
    }

    public int king(int z, int n, int what) {
        if (z < 0 || z > 9999 || n < 1 || n > 40 || what < 0 || what > 2) {
            return BAD;
        }
        trial.unpack(now.packed());
        for (int k = 0; k < n; k++) {
            kingGoesOn(trial, drawOf(z, k));
        }
        if (what == 0) {
            return Integer.bitCount(trial.brought);
        }
        return what == 1 ? trial.day : oneIf(trial.isLost(months));
    }

    public int keep() {
        if (kept.size >= MOST_KEPT) {
            return FULL;
        }
        kept.put(now.packed());
        return kept.size;
    }

    public int back() {
        if (kept.size < 1) {
            return NO;
        }
        now.unpack(kept.takeLatest());
        undoable.clear();
        return kept.size;
    }

    public int count(int what) {
        switch (what) {
            case 0: return months.tasks;
            case 1: return months.helpers;
            case 2: return Integer.bitCount(now.openTasks());
            case 3: return Integer.bitCount(now.brought);
            case 4: return Integer.bitCount(now.freeFriends());
            case 5: return now.crumbs;
            case 6: return now.day;
            case 7: return oneIf(now.isLost(months));
            case 8: return seen.size;
            case 9: return undoable.size;
            case 10: return kept.size;
            case 11: return letters;
            default: return BAD;
        }
    }

    // ---- behind the face

    private static int bit(int number) {
        return 1 << number;
    }

    private static int oneIf(boolean so) {
        return so ? 1 : 0;
    }

    private static int numberAt(int[] row, int place) {
        return place >= 0 && place < row.length ? row[place] : 0;
    }

    private static void setNumber(int[] row, int place, int number) {
        if (place >= 0 && place < row.length) {
            row[place] = number;
        }
    }

    /** Of 10 to the power of as many tasks as can be suggested: by how many there is a row WELL. */
    private int chancesOfTen(int can, int x) {
        int sum = 0;
        for (int set = 0; set < TASK_SETS; set++) {
            int chances = (set & ~can) == 0 ? chancesOfSet(can, set, x) : 0;
            if (chances == 0) {
                continue;
            }
            trial.unpack(now.packed());
            trial.asked |= set;
            if (search.endsWellWith(months, trial, 0)) {
                sum += chances;
            }
        }
        return sum;
    }

    private static int chancesOfSet(int can, int set, int x) {
        int suggested = Integer.bitCount(set);
        return power(x, suggested) * power(10 - x, Integer.bitCount(can) - suggested);
    }

    private static int power(int base, int times) {
        int product = 1;
        for (int i = 0; i < times; i++) {
            product *= base;
        }
        return product;
    }

    private static int commonDivisor(int one, int other) {
        int larger = one;
        int smaller = other;
        // Below 10 to the 8th Euclid needs fewer than 40 turns.
        for (int turn = 0; turn < 1000 && smaller != 0; turn++) {
            int rest = larger % smaller;
            larger = smaller;
            smaller = rest;
        }
        return larger;
    }

    private static int drawOf(int z, int k) {
        long x = 7919L * z + 6151L * k + 1;
        return (int) (x * x % 65521 / 2);
    }

    private void kingGoesOn(Standing standing, int draw) {
        if (months.tasks < 1) {
            return;
        }
        int t = draw % months.tasks;
        if (standing.tryRide(months, t)) {
            return;
        }
        if (months.helpers > 0 && standing.tryBefriend(months, draw / 8 % months.helpers)) {
            return;
        }
        standing.trySuggest(months, t);
    }

    /** What a text tells. */
    private static final class Months {
        int tasks;
        int helpers;
        int askedFirst;
        int crumbsFirst;
        int lastDay;
        private final int[] kinds = new int[MOST_TASKS];
        private final int[] days = new int[MOST_TASKS];
        private final int[] rideDays = new int[MOST_TASKS];
        private final int[] helpKinds = new int[MOST_TASKS];
        private final int[] nexts = new int[MOST_TASKS];
        private final int[] helperKinds = new int[MOST_HELPERS];
        private final int[] prices = new int[MOST_HELPERS];
        private final int[] helpersOfKind = new int[HELP_KINDS];
        private final int[] numbers = new int[4];

        Months() {
        }

        boolean hasTask(int t) {
            return t >= 0 && t < tasks;
        }

        boolean hasHelper(int h) {
            return h >= 0 && h < helpers;
        }

        int kindOf(int t) {
            return t >= 0 && t < kinds.length ? kinds[t] : 0;
        }

        int daysOf(int t) {
            return t >= 0 && t < days.length ? days[t] : 0;
        }

        int helpKindOf(int t) {
            return t >= 0 && t < helpKinds.length ? helpKinds[t] : 0;
        }

        int nextOf(int t) {
            return t >= 0 && t < nexts.length ? nexts[t] : 0;
        }

        int helperKindOf(int h) {
            return h >= 0 && h < helperKinds.length ? helperKinds[h] : 0;
        }

        int priceOf(int h) {
            return h >= 0 && h < prices.length ? prices[h] : 0;
        }

        int rideDaysOf(int t) {
            return t >= 0 && t < rideDays.length ? rideDays[t] : 0;
        }

        int rideDaysOfSet(int set) {
            int sum = 0;
            for (int t = 0; t < tasks; t++) {
                if ((set & bit(t)) != 0) {
                    sum += rideDaysOf(t);
                }
            }
            return sum;
        }

        /** All helpers of a kind, as bits; of the kind that is none there are none. */
        int helpersOf(int helpKind) {
            return helpKind >= 0 && helpKind < helpersOfKind.length ? helpersOfKind[helpKind] : 0;
        }

        int priceOfSet(int set) {
            int sum = 0;
            for (int h = 0; h < helpers; h++) {
                if ((set & bit(h)) != 0) {
                    sum += priceOf(h);
                }
            }
            return sum;
        }

        /** Whether free friends are as many, of each kind and in all, as rides for a set of tasks use. */
        boolean isHelpEnough(int set, int free) {
            int spare = Integer.bitCount(free) - helpOfAny(set);
            for (int kind = 0; kind < HELP_KINDS; kind++) {
                int wanted = helpOfKind(set, kind);
                if (wanted > Integer.bitCount(free & helpersOf(kind))) {
                    return false;
                }
                spare -= wanted;
            }
            return spare >= 0;
        }

        /** How many of a kind, and of no other, rides for a set of tasks use. */
        private int helpOfKind(int set, int kind) {
            int wanted = 0;
            for (int t = 0; t < tasks; t++) {
                if ((set & bit(t)) != 0 && helpKindOf(t) == kind && kindOf(t) != DONE) {
                    wanted += kindOf(t) == IMPOSSIBLE ? 2 : 1;
                }
            }
            return wanted;
        }

        private int helpOfAny(int set) {
            int wanted = 0;
            for (int t = 0; t < tasks; t++) {
                wanted += (set & bit(t)) != 0 && kindOf(t) == FOR_TWO ? 1 : 0;
            }
            return wanted;
        }

        /** The tasks behind which t is asked; t itself is not, since a N that is itself is none. */
        int tasksThatAsk(int t) {
            int set = 0;
            for (int other = 0; other < tasks; other++) {
                if (other != t && nextOf(other) == t) {
                    set |= bit(other);
                }
            }
            return set;
        }

        boolean canBeLaid() {
            for (int t = 0; t < tasks; t++) {
                if (!hasTask(nextOf(t))) {
                    return false;
                }
            }
            return tasks > 0;
        }

        /** Takes in a text; the place of the first item that is not so, or NONE. */
        int readFrom(char[] letters, int length) {
            clear();
            int at = 0;
            while (at < length) {
                int behind = readItem(letters, length, at);
                if (behind <= at) {
                    return at;
                }
                at = behind;
            }
            return NONE;
        }

        private void clear() {
            tasks = 0;
            helpers = 0;
            askedFirst = 0;
            crumbsFirst = 20;
            lastDay = 30;
            for (int kind = 0; kind < HELP_KINDS; kind++) {
                setNumber(helpersOfKind, kind, 0);
            }
        }

        /** The place behind the item that begins at a place, or NO. */
        private int readItem(char[] letters, int length, int start) {
            int name = letterAt(letters, length, start);
            int wanted = numbersBehind(name);
            int at = start + 1;
            for (int i = 0; i < wanted; i++) {
                int figures = figuresAt(letters, length, at);
                if (figures < 1) {
                    return NO;
                }
                setNumber(numbers, i, readNumber(letters, length, at, figures));
                at += figures;
                if (letterAt(letters, length, at) != (i + 1 < wanted ? ',' : ';')) {
                    return NO;
                }
                at++;
            }
            return takeItem(name) ? at : NO;
        }

        private static int letterAt(char[] letters, int length, int at) {
            return at >= 0 && at < length && at < letters.length ? letters[at] : NONE;
        }

        private static int numbersBehind(int name) {
            switch (name) {
                case 't': return 4;
                case 'h': return 2;
                case 'a':
                case 'c':
                case 'l': return 1;
                default: return 0;
            }
        }

        private static boolean isFigure(int letter) {
            return letter >= '0' && letter <= '9';
        }

        private static int figuresAt(char[] letters, int length, int at) {
            if (!isFigure(letterAt(letters, length, at))) {
                return 0;
            }
            return isFigure(letterAt(letters, length, at + 1)) ? 2 : 1;
        }

        private static int readNumber(char[] letters, int length, int at, int figures) {
            int first = letterAt(letters, length, at) - '0';
            return figures == 1 ? first : first * 10 + letterAt(letters, length, at + 1) - '0';
        }

        private boolean takeItem(int name) {
            int first = numberAt(numbers, 0);
            switch (name) {
                case 't': return takeTask();
                case 'h': return takeHelper();
                case 'a':
                    if (!hasTask(first)) {
                        return false;
                    }
                    askedFirst |= bit(first);
                    return true;
                case 'c':
                    crumbsFirst = first;
                    return first <= 99;
                case 'l':
                    lastDay = first;
                    return first >= 1 && first <= 60;
                default: return false;
            }
        }

        private boolean takeTask() {
            int kind = numberAt(numbers, 0);
            int takes = numberAt(numbers, 1);
            int helpKind = numberAt(numbers, 2);
            int next = numberAt(numbers, 3);
            if (tasks >= MOST_TASKS || kind > BY_A_DAY || takes > 9 || helpKind > NO_HELP || next > 7) {
                return false;
            }
            setNumber(kinds, tasks, kind);
            setNumber(days, tasks, takes);
            setNumber(rideDays, tasks, kind == DONE ? 0 : takes);
            setNumber(helpKinds, tasks, helpKind);
            setNumber(nexts, tasks, next);
            tasks++;
            return true;
        }

        private boolean takeHelper() {
            int kind = numberAt(numbers, 0);
            int price = numberAt(numbers, 1);
            if (helpers >= MOST_HELPERS || kind >= HELP_KINDS || price > 20) {
                return false;
            }
            setNumber(helperKinds, helpers, kind);
            setNumber(prices, helpers, price);
            setNumber(helpersOfKind, kind, helpersOf(kind) | bit(helpers));
            helpers++;
            return true;
        }
    }

    /** How it stands: sets of tasks and of helpers as bits; what is brought is asked too. */
    private static final class Standing {
        int asked;
        int brought;
        int friends;
        int used;
        int crumbs;
        int day;

        Standing() {
        }

        void begin(Months months) {
            asked = months.askedFirst;
            brought = 0;
            friends = 0;
            used = 0;
            crumbs = months.crumbsFirst;
            day = 0;
        }

        /** One number of all: a day is 79 at most, since nothing is begun behind day 60. */
        long packed() {
            long tasks = asked | brought << 8;
            long helpers = friends | used << 7;
            return tasks | helpers << 16 | (long) crumbs << 30 | (long) day << 37;
        }

        void unpack(long packed) {
            asked = (int) packed & 255;
            brought = (int) (packed >> 8) & 255;
            friends = (int) (packed >> 16) & 127;
            used = (int) (packed >> 23) & 127;
            crumbs = (int) (packed >> 30) & 127;
            day = (int) (packed >> 37) & 127;
        }

        boolean isLost(Months months) {
            return day > months.lastDay;
        }

        int openTasks() {
            return asked & ~brought;
        }

        int freeFriends() {
            return friends & ~used;
        }

        /** By whom t would be ridden for now, as bits, or NO. */
        int helpersFor(Months months, int t) {
            if (isLost(months) || (openTasks() & bit(t)) == 0) {
                return NO;
            }
            int helpKind = months.helpKindOf(t);
            int free = freeFriends();
            int ofKind = free & months.helpersOf(helpKind);
            int first = helpKind == NO_HELP ? 0 : lowestOf(ofKind);
            switch (months.kindOf(t)) {
                case PLAIN: return first;
                case IMPOSSIBLE: return helpKind == NO_HELP ? 0 : withOneMore(first, ofKind);
                case DONE: return 0;
                case FOR_TWO: return withOneMore(first, free);
                case BY_A_DAY: return day > LATEST_START ? NO : first;
                default: return NO;
            }
        }

        private static int lowestOf(int set) {
            return set == 0 ? NO : set & -set;
        }

        private static int withOneMore(int first, int set) {
            int more = first < 0 ? 0 : set & ~first;
            return more == 0 ? NO : first | more & -more;
        }

        boolean tryRide(Months months, int t) {
            int help = helpersFor(months, t);
            if (help < 0) {
                return false;
            }
            used |= help;
            day += months.rideDaysOf(t);
            brought |= bit(t);
            asked |= bit(months.nextOf(t));
            return true;
        }

        boolean tryBefriend(Months months, int h) {
            int price = months.priceOf(h);
            if ((friends & bit(h)) != 0 || price > crumbs) {
                return false;
            }
            friends |= bit(h);
            crumbs -= price;
            return true;
        }

        boolean trySuggest(Months months, int t) {
            if ((tasksToSuggest(months) & bit(t)) == 0) {
                return false;
            }
            asked |= bit(t);
            return true;
        }

        boolean tryHandUp(Months months, int t) {
            if (isLost(months) || (openTasks() & bit(t)) == 0) {
                return false;
            }
            day += 2 * months.daysOf(t) + 1;
            brought |= bit(t);
            return true;
        }

        int tasksToSuggest(Months months) {
            return isLost(months) ? 0 : bit(months.tasks) - 1 & ~asked;
        }

        int tasksToCome(Months months) {
            int set = openTasks();
            // Each turn goes one N further, and no way through 8 tasks is longer than 8.
            for (int turn = 0; turn < MOST_TASKS; turn++) {
                for (int t = 0; t < months.tasks; t++) {
                    if ((set & bit(t)) != 0) {
                        set |= bit(months.nextOf(t)) & ~brought;
                    }
                }
            }
            return set;
        }
    }

    /** Standings one on the other; when there is no room, the lowest goes. */
    private static final class Pile {
        int size;
        private final long[] held;

        Pile(int most) {
            held = new long[Math.max(1, most)];
        }

        void clear() {
            size = 0;
        }

        void put(long packed) {
            if (size >= held.length) {
                dropLowest();
            }
            if (size >= 0 && size < held.length) {
                held[size] = packed;
                size++;
            }
        }

        private void dropLowest() {
            for (int i = 1; i < held.length; i++) {
                held[i - 1] = held[i];
            }
            size = held.length - 1;
        }

        long takeLatest() {
            if (size < 1 || size > held.length) {
                return 0;
            }
            size--;
            return held[size];
        }
    }

    /** What is seen: which tasks each place of a row leaves. */
    private static final class Seen {
        int size;
        private int lastPlace;
        private final int[] left = new int[MOST_TASKS];

        Seen() {
            clear();
        }

        void clear() {
            size = 0;
            lastPlace = 0;
            for (int place = 0; place < MOST_TASKS; place++) {
                setNumber(left, place, TASK_SETS - 1);
            }
        }

        void add(int t, int place) {
            setNumber(left, place - 1, numberAt(left, place - 1) & bit(t));
            lastPlace = Math.max(lastPlace, place);
            size++;
        }

        boolean leaves(int t, int place) {
            return (numberAt(left, place - 1) & bit(t)) != 0;
        }

        boolean isWithin(int rides) {
            return lastPlace <= rides;
        }
    }

    /** Goes through the rows from a standing on. */
    private static final class Search {
        private static final int CELLS = 4096;
        private static final int KEY_BITS = 15;
        private static final int WAYS_BITS = 16;
        private static final long ALL = 1L << WAYS_BITS;

        // By tasks brought and friends used: behind these the ways on are the same, whatever the order.
        // A search meets some hundreds of the 32768 such keys, so several keys share a cell to keep the row short.
        // A cell holds the number of the search it is of, the key and, lowest, the ways (8! at most).
        private final long[] known = new long[CELLS];
        private final Standing road = new Standing();
        private final Seen unseen;
        private long number;
        private long enough;
        private boolean hopeless;
        private Months months;
        private Seen heeded;

        Search(Months laid, Seen nothing) {
            months = laid;
            unseen = nothing;
            heeded = nothing;
        }

        int waysOf(Months laid, Standing from, Seen seen) {
            begin(laid, from, 0, seen, ALL);
            return (int) waysOn(this, 0);
        }

        /** Whether a row ends well, were the helpers of a set friends too. */
        boolean endsWellWith(Months laid, Standing from, int set) {
            begin(laid, from, set, unseen, 1);
            return waysOn(this, 0) > 0;
        }

        /** The task at a place (1 or more) of the first row, or NONE. */
        int placeInFirst(Months laid, Standing from, Seen seen, int place) {
            begin(laid, from, 0, seen, 1);
            int t = NONE;
            for (int rides = 0; rides < place; rides++) {
                t = rideFirst(rides);
                if (t < 0) {
                    return NONE;
                }
            }
            return t;
        }

        /** The set of helpers by which a row ends well for the fewest crumbs, or NONE. */
        int fewestSet(Months laid, Standing from) {
            int best = NONE;
            int bestPrice = from.crumbs + 1;
            int strangers = bit(laid.helpers) - 1 & ~from.friends;
            if (!endsWellWith(laid, from, strangers)) {
                // One friend more never ends a row, since no ride leaves fewer free then.
                return NONE;
            }
            for (int set = 0; set < HELPER_SETS; set++) {
                int price = laid.priceOfSet(set);
                if ((set & ~strangers) == 0 && price < bestPrice && endsWellWith(laid, from, set)) {
                    best = set;
                    bestPrice = price;
                }
            }
            return best;
        }

        private void begin(Months laid, Standing from, int more, Seen seen, long most) {
            months = laid;
            heeded = seen;
            enough = most;
            number++;
            road.unpack(from.packed());
            road.friends |= more;
            // A row that ends well rides for all that may come: its days and its help are known ahead.
            int come = road.tasksToCome(laid);
            hopeless = road.day + laid.rideDaysOfSet(come) > laid.lastDay
                || !laid.isHelpEnough(come, road.freeFriends());
        }

        /** Rides for the lowest task by which a row ends well: that task, or NONE. */
        private int rideFirst(int rides) {
            long before = road.packed();
            for (int t = 0; t < MOST_TASKS; t++) {
                if (heeded.leaves(t, rides + 1) && road.tryRide(months, t)) {
                    if (waysOn(this, rides + 1) > 0) {
                        return t;
                    }
                    road.unpack(before);
                }
            }
            return NONE;
        }

        /** How many ways on end well (no more than is enough); the road is left as it was. */
        private static long waysOn(Search search, int rides) {
            Standing road = search.road;
            if (search.hopeless) {
                return 0;
            }
            if (road.openTasks() == 0) {
                return search.heeded.isWithin(rides) ? 1 : 0;
            }
            if (rides >= MOST_TASKS) {
                return 0;
            }
            int key = road.brought * HELPER_SETS + road.used;
            long ways = search.recall(key);
            if (ways >= 0) {
                return ways;
            }
            ways = 0;
            long before = road.packed();
            for (int t = 0; t < MOST_TASKS && ways < search.enough; t++) {
                if (search.heeded.leaves(t, rides + 1) && road.tryRide(search.months, t)) {
                    ways += waysOn(search, rides + 1);
                    road.unpack(before);
                }
            }
            search.remember(key, ways);
            return ways;
        }

        private long recall(int key) {
            int cell = cellOf(key);
            if (cell < 0 || cell >= known.length || known[cell] >> WAYS_BITS != (number << KEY_BITS | key)) {
                return NONE;
            }
            return known[cell] & ALL - 1;
        }

        private void remember(int key, long ways) {
            int cell = cellOf(key);
            if (cell >= 0 && cell < known.length) {
                known[cell] = (number << KEY_BITS | key) << WAYS_BITS | ways;
            }
        }

        /** Keys that are near one another lie far apart, so that few meet in a cell. */
        private static int cellOf(int key) {
            return key * 40503 >> 4 & CELLS - 1;
        }
    }
}
