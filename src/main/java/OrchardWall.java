import java.util.Arrays;

/** Raids over an orchard's wall: told in a text, planned, run, foretold, undone. */
public final class OrchardWall {
    public static final int NONE = -1000000, BAD = -1000001, STATE = -1000002, FULL = -1000003;

    private static final int FIRST_FINDING = -1000010;
    private static final int FIRST_FAULT = -1000100;
    private static final int FOUND_NULL = 1, FOUND_PLACE = 2, FOUND_KIND = 3, FOUND_SIZE = 4, FOUND_STORE = 5;

    private static final int MOST_HENS = 3, MOST_TREES = 6, MOST_RAIDERS = 4;
    private static final int EVERYBODY = (1 << MOST_RAIDERS) - 1;
    private static final int CELLS = 24, CELLS_WIDE = 6, HOURS = 24, DAYS_TOLD = 6;
    private static final int MOST_PLANNED = 20, MOST_GROWN = 30, MOST_ON_A_TREE = 60;
    private static final int MOST_RAIDS = 99, MOST_RAIDS_AHEAD = 40, IMAGES = 2;
    private static final int MOST_TRACED = 16, DEEPEST_BODY = 8;

    private static final int KIND_ANY = 0, KIND_PICKER = 1, KIND_QUICK = 2, KIND_STOUT = 3;
    private static final int KIND_WATCH = 4, KIND_SISTER = 5, KINDS = 6;
    private static final int[] KIND_ABOVE = {-1, KIND_ANY, KIND_PICKER, KIND_PICKER, KIND_ANY, KIND_WATCH};
    private static final int ASK_SIZE = 0, ASK_MARK = 1;
    private static final int[] FIRST_BODY_OF_SIZE = {10, 11, 12, 11, 13, 14};
    private static final int[] FIRST_BODY_OF_MARK = {20, 21, 24, 22, 23, 23};

    // Places of Orchard.now: all that an act can change, in one row, so that it is kept and brought back whole.
    private static final int APPLES = 0, PLAN_TREE = 6, PLAN_APPLES = 10, PLAN_HOW = 14;
    private static final int CAUGHT = 18, RAIDS = 22, GOT = 23, NOW_LENGTH = 24;

    // Places of best, as bestAlone() numbers them.
    private static final int BEST_TREE = 0, BEST_APPLES = 1, BEST_HOW = 2, BEST_GOT = 3, BEST_LENGTH = 4;

    private final Rows rows = new Rows();
    private final Reader reader = new Reader();
    private final Orchard orchard = new Orchard();
    private final Orchard draft = new Orchard();
    private final Orchard imageZero = new Orchard();
    private final Orchard imageOne = new Orchard();
    private final Acts acts = new Acts();
    private final Raid raid = new Raid(orchard);
    private final Book book = new Book();
    private final Days days = new Days();
    private final int[] best = new int[BEST_LENGTH];
    private final int[] traced = new int[MOST_TRACED];
    private int tracedLength = 0;
    private int finding = 0;

    public OrchardWall() {
    }

    // ---- rows

    public int row(int row, int lane, int n) {
        if (!Rows.isRow(row) || lane < 0 || lane >= Rows.LANES || n > Rows.MOST_ITEMS) {
            return BAD;
        }
        if (n < 0) {
            return found(FOUND_SIZE);
        }
        rows.make(row, lane, n);
        return well(n);
    }

    public int set(int row, int i, int v) {
        if (!Rows.isRow(row)) {
            return BAD;
        }
        int trouble = rows.troubleWith(row, i, 1);
        return trouble != 0 ? found(trouble) : well(rows.put(row, i, v));
    }

    public int copy(int a, int i, int b, int j, int n) {
        if (!Rows.isRow(a) || !Rows.isRow(b)) {
            return BAD;
        }
        int trouble = rows.troubleBetween(a, i, b, j, n);
        if (trouble != 0) {
            return found(trouble);
        }
        rows.move(a, i, b, j, n);
        return well(n);
    }

    public int drop(int row) {
        if (!Rows.isRow(row)) {
            return BAD;
        }
        return rows.isMissing(row) ? found(FOUND_NULL) : well(rows.lose(row));
    }

    // ---- what is told

    public int feed(int letter) {
        if (letter < 0 || letter > 255) {
            return BAD;
        }
        return reader.isFull() ? FULL : reader.append(letter);
    }

    public int orchard() {
        int place = reader.read(draft);
        if (place >= 0) {
            return FIRST_FAULT - place;
        }
        orchard.become(draft);
        acts.forget();
        return orchard.trees;
    }

    public int fault() {
        return reader.fault;
    }

    public int undo() {
        return acts.takeBack(orchard) ? acts.kept : STATE;
    }

    // ---- plans, raids

    public int plan(int raider, int tree, int apples, int how) {
        if (!orchard.hasRaider(raider) || !isPlan(tree, apples, how)) {
            return BAD;
        }
        if (!orchard.canPlan(raider)) {
            return STATE;
        }
        boolean had = orchard.hasPlan(raider);
        boolean none = tree < 0;
        acts.keep(orchard);
        orchard.now[PLAN_TREE + raider] = tree;
        orchard.now[PLAN_APPLES + raider] = none ? 0 : apples;
        orchard.now[PLAN_HOW + raider] = none ? 0 : how;
        return had ? 1 : 0;
    }

    public int raid() {
        if (!orchard.stands || !orchard.isPlanned()) {
            return STATE;
        }
        if (orchard.now[RAIDS] >= MOST_RAIDS) {
            return FULL;
        }
        acts.keep(orchard);
        raidOf(EVERYBODY);
        raid.leaveBehind();
        return raid.gotByAll();
    }

    public int grow(int tree, int n) {
        if (!orchard.hasTree(tree) || n < 1 || n > MOST_GROWN) {
            return BAD;
        }
        if (orchard.now[APPLES + tree] + n > MOST_ON_A_TREE) {
            return FULL;
        }
        acts.keep(orchard);
        orchard.now[APPLES + tree] += n;
        return orchard.now[APPLES + tree];
    }

    public int write(int hour, int slept) {
        if (!isHour(hour) || !isBit(slept)) {
            return BAD;
        }
        return book.isFull() ? FULL : book.append(hour, slept);
    }

    public int tear() {
        return book.empty();
    }

    public int raider(int raider, int what) {
        if (!orchard.hasRaider(raider)) {
            return BAD;
        }
        switch (what) {
            case 0: return orchard.full[raider];
            case 1: return orchard.now[PLAN_TREE + raider];
            case 2: return orchard.now[PLAN_APPLES + raider];
            case 3: return orchard.now[PLAN_HOW + raider];
            case 4: return orchard.now[CAUGHT + raider];
            default: return BAD;
        }
    }

    public int tree(int tree, int what) {
        if (!orchard.hasTree(tree)) {
            return BAD;
        }
        switch (what) {
            case 0: return orchard.treeCell[tree];
            case 1: return orchard.now[APPLES + tree];
            case 2: return orchard.treeWorth[tree];
            default: return BAD;
        }
    }

    public int far(int a, int b) {
        return isCell(a) && isCell(b) ? distance(a, b) : BAD;
    }

    // ---- foretold

    public int ahead(int what) {
        if (!orchard.stands) {
            return STATE;
        }
        if (what < 0 || what > 3) {
            return BAD;
        }
        raidOf(EVERYBODY);
        switch (what) {
            case 0: return raid.gotByAll();
            case 1: return raid.caughtBits();
            case 2: return raid.door > 0 ? raid.door : NONE;
            default: return raid.last;
        }
    }

    public int raiderAhead(int raider, int what) {
        if (!orchard.hasRaider(raider) || !isBit(what)) {
            return BAD;
        }
        raidOf(EVERYBODY);
        if (what == 1) {
            return raid.applesGot(raider);
        }
        return raid.isOut(raider) ? raid.outAt[raider] : NONE;
    }

    public int safe(int raider, int tree, int how) {
        if (!orchard.hasRaider(raider) || !orchard.hasTree(tree) || !isBit(how)) {
            return BAD;
        }
        if (!orchard.canPlan(raider)) {
            return STATE;
        }
        int most = 0;
        for (int apples = 1; apples <= MOST_PLANNED; apples++) {
            raidAlone(raider, tree, apples, how);
            boolean isOut = raid.isOut(raider);
            if (isOut) {
                most = apples;
            }
            // Who had fewer than planned has the same raid by every greater plan.
            if (raid.had[raider] < apples) {
                return isOut ? MOST_PLANNED : most;
            }
        }
        return most;
    }

    public int bestAlone(int raider, int what) {
        if (!orchard.hasRaider(raider) || what < 0 || what >= BEST_LENGTH) {
            return BAD;
        }
        if (!orchard.canPlan(raider)) {
            return STATE;
        }
        Arrays.fill(best, NONE);
        for (int tree = 0; tree < orchard.trees; tree++) {
            boolean hadAll = true;
            // Who had fewer than planned, either way, gets no more by a greater plan.
            for (int apples = 1; apples <= MOST_PLANNED && hadAll; apples++) {
                boolean hadAllCarried = compareAlone(raider, tree, apples, 0);
                boolean hadAllThrown = compareAlone(raider, tree, apples, 1);
                hadAll = hadAllCarried || hadAllThrown;
            }
        }
        return best[what];
    }

    public int watch(int raider) {
        if (!orchard.hasRaider(raider)) {
            return BAD;
        }
        if (!orchard.hasPlan(raider)) {
            return STATE;
        }
        raidOf(EVERYBODY);
        int got = raid.gotByAll();
        raid.gather(EVERYBODY & ~(1 << raider));
        raid.delay = 0;
        raid.run();
        return raid.gotByAll() - got;
    }

    public int days(int row, int i, int l) {
        int refusal = refusalOfDays(row, i, l);
        return refusal != 0 ? refusal : days.bestSet;
    }

    public long daysValue(int row, int i, int l, int day, int what) {
        if (day < -1 || day >= DAYS_TOLD || !isBit(what)) {
            return BAD;
        }
        int refusal = refusalOfDays(row, i, l);
        if (refusal != 0) {
            return refusal;
        }
        if (day < 0) {
            return what == 0 ? days.bestAbove : days.bestBelow;
        }
        return days.odds(day, what == 0);
    }

    public int shares(int row, int i) {
        int refusal = refusalOfTold(row, i, orchard.raiders, true);
        if (refusal != 0) {
            return refusal;
        }
        raidOf(EVERYBODY);
        int everybody = (1 << orchard.raiders) - 1;
        if (rows.sumOf(row, i, everybody) != raid.gotByAll()) {
            return NONE;
        }
        for (int group = 1; group <= everybody; group++) {
            raidOf(group);
            if (raid.gotByAll() > rows.sumOf(row, i, group)) {
                return group;
            }
        }
        return 0;
    }

    public int bare(int what) {
        if (!orchard.stands) {
            return STATE;
        }
        if (!isBit(what)) {
            return BAD;
        }
        raid.gather(EVERYBODY);
        int together = 0;
        for (int raids = 0; raids <= MOST_RAIDS_AHEAD; raids++) {
            raid.run();
            if (raid.gotByAll() == 0) {
                return what == 0 ? raids : together;
            }
            together += raid.gotByAll();
        }
        return NONE;
    }

    public int who(int row, int i, int what) {
        int refusal = refusalOfTold(row, i, orchard.trees, isBit(what));
        if (refusal != 0) {
            return refusal;
        }
        int fitting = 0;
        int least = NONE;
        for (int group = (1 << orchard.raiders) - 1; group >= 1; group--) {
            if (!orchard.allPlan(group)) {
                continue;
            }
            raidOf(group);
            if (isMissingJustSo(row, i)) {
                fitting++;
                least = group;
            }
        }
        return what == 0 ? fitting : least;
    }

    public int sleep(int hour, int what) {
        if (!isHour(hour) || !isBit(what)) {
            return BAD;
        }
        int lines = book.linesOf(hour);
        if (lines == 0) {
            return NONE;
        }
        int slept = book.sleptIn(hour);
        return (what == 0 ? slept : lines) / (int) commonPart(slept, lines);
    }

    public int quietest() {
        return book.quietestHour();
    }

    public int image(int k) {
        if (k < 0 || k >= IMAGES) {
            return BAD;
        }
        if (!orchard.stands) {
            return STATE;
        }
        imageAt(k).become(orchard);
        return 1;
    }

    public int restore(int k) {
        if (k < 0 || k >= IMAGES) {
            return BAD;
        }
        if (!imageAt(k).stands) {
            return STATE;
        }
        orchard.become(imageAt(k));
        acts.forget();
        return 1;
    }

    // ---- asked

    public int kind(int one) {
        return orchard.hasRaider(one) ? orchard.kinds[one] : BAD;
    }

    public int as(int one, int kind) {
        if (!orchard.hasRaider(one) || kind < 0 || kind >= KINDS) {
            return BAD;
        }
        return isOfKind(orchard.kinds[one], kind) ? well(one) : found(FOUND_KIND);
    }

    public int ask(int one, int what) {
        if (!orchard.hasRaider(one) || !isBit(what)) {
            return BAD;
        }
        tracedLength = 0;
        return body(firstBody(one, what), one, 0);
    }

    public int trace(int i) {
        return i >= 0 && i < tracedLength ? traced[i] : NONE;
    }

    public int count(int what) {
        switch (what) {
            case 0: return rows.present();
            case 1: return orchard.trees;
            case 2: return orchard.raiders;
            case 3: return orchard.hens;
            case 4: return orchard.now[RAIDS];
            case 5: return orchard.now[GOT];
            case 6: return book.lines;
            case 7: return acts.kept;
            case 8: return reader.length;
            default: return BAD;
        }
    }

    public int status() {
        return finding;
    }

    // ---- what the calls share

    private int found(int number) {
        finding = number;
        return FIRST_FINDING - number;
    }

    private int well(int answer) {
        finding = 0;
        return answer;
    }

    private static boolean isBit(int v) {
        return v == 0 || v == 1;
    }

    private static boolean isHour(int hour) {
        return hour >= 0 && hour < HOURS;
    }

    private static boolean isCell(int cell) {
        return cell >= 0 && cell < CELLS;
    }

    private static int distance(int a, int b) {
        return Math.abs(a % CELLS_WIDE - b % CELLS_WIDE) + Math.abs(a / CELLS_WIDE - b / CELLS_WIDE);
    }

    /** The greatest number that divides both; 1 where there is none, so that one can always divide by it. */
    private static long commonPart(long a, long b) {
        long x = Math.abs(a);
        long y = Math.abs(b);
        for (int turn = 0; turn < 100 && y != 0; turn++) {
            long rest = x % y;
            x = y;
            y = rest;
        }
        return x > 0 ? x : 1;
    }

    private boolean isPlan(int tree, int apples, int how) {
        if (tree == -1) {
            return true;
        }
        return orchard.hasTree(tree) && apples >= 1 && apples <= MOST_PLANNED && isBit(how);
    }

    private void raidOf(int group) {
        raid.gather(group);
        raid.run();
    }

    private void raidAlone(int raider, int tree, int apples, int how) {
        raid.gather(0);
        raid.tell(raider, tree, apples, how);
        raid.run();
    }

    /** Takes a plan as the best one if it is better than those before; whether he had all that he planned. */
    private boolean compareAlone(int raider, int tree, int apples, int how) {
        raidAlone(raider, tree, apples, how);
        if (raid.isOut(raider) && raid.gotByAll() > best[BEST_GOT]) {
            best[BEST_TREE] = tree;
            best[BEST_APPLES] = apples;
            best[BEST_HOW] = how;
            best[BEST_GOT] = raid.gotByAll();
        }
        return raid.had[raider] >= apples;
    }

    /** 0, and the days are solved; or what days() and daysValue() answer in place of them. */
    private int refusalOfDays(int row, int i, int l) {
        if (!Rows.isRow(row) || l < 1 || l > Days.MOST) {
            return BAD;
        }
        int trouble = rows.troubleWith(row, i, DAYS_TOLD);
        if (trouble != 0) {
            return found(trouble);
        }
        for (int day = 0; day < DAYS_TOLD; day++) {
            int gain = rows.item(row, i + day);
            if (gain < 0 || gain > Days.MOST) {
                return BAD;
            }
            days.stakes[day] = gain + l;
        }
        days.solve(l);
        return well(0);
    }

    /** 0, or what shares() and who() answer where n items of a row from i on are no answer to be read. */
    private int refusalOfTold(int row, int i, int n, boolean isAsked) {
        if (!orchard.stands) {
            return STATE;
        }
        if (!Rows.isRow(row) || !isAsked) {
            return BAD;
        }
        int trouble = rows.troubleWith(row, i, n);
        return trouble != 0 ? found(trouble) : well(0);
    }

    /** Whether the raid that was foretold takes as many apples of each tree as are told from i on. */
    private boolean isMissingJustSo(int row, int i) {
        for (int tree = 0; tree < orchard.trees; tree++) {
            if (orchard.now[APPLES + tree] - raid.left[tree] != rows.item(row, i + tree)) {
                return false;
            }
        }
        return true;
    }

    private Orchard imageAt(int k) {
        return k == 0 ? imageZero : imageOne;
    }

    private static boolean isOfKind(int kind, int asked) {
        int at = kind;
        for (int turn = 0; turn < KINDS && at >= 0 && at < KINDS; turn++) {
            if (at == asked) {
                return true;
            }
            at = KIND_ABOVE[at];
        }
        return false;
    }

    private int firstBody(int one, int what) {
        int kind = orchard.kinds[one];
        return what == ASK_SIZE ? FIRST_BODY_OF_SIZE[kind] : FIRST_BODY_OF_MARK[kind];
    }

    private int body(int number, int one, int depth) {
        if (depth > DEEPEST_BODY) {
            return 0;
        }
        if (tracedLength < MOST_TRACED) {
            traced[tracedLength] = number;
            tracedLength++;
        }
        int below = depth + 1;
        switch (number) {
            case 10: return orchard.full[one];
            case 11: return body(10, one, below) + body(firstBody(one, ASK_MARK), one, below);
            case 12: return -body(11, one, below);
            case 13: return body(10, one, below) - 100;
            case 14: return 2 * body(13, one, below);
            case 20: return one;
            case 21: return body(20, one, below) + orchard.now[PLAN_APPLES + one];
            case 22: return body(21, one, below) - 1000;
            case 23: return body(20, one, below) - body(firstBody(one, ASK_SIZE), one, below);
            case 24: return 2 * body(21, one, below);
            default: return 0;
        }
    }

    /** Rows that are missing or have a lane; made once, as long as any can be, and used again. */
    private static final class Rows {
        static final int MOST = 8, MOST_ITEMS = 40, LANES = 3, MISSING = -1;

        final int[] lanes = new int[MOST];
        final int[] sizes = new int[MOST];
        final int[][] items = new int[MOST][MOST_ITEMS];

        Rows() {
            Arrays.fill(lanes, MISSING);
        }

        static boolean isRow(int row) {
            return row >= 0 && row < MOST;
        }

        boolean isMissing(int row) {
            return lanes[row] == MISSING;
        }

        void make(int row, int lane, int n) {
            lanes[row] = lane;
            sizes[row] = n;
            Arrays.fill(items[row], 0);
        }

        int lose(int row) {
            int had = sizes[row];
            lanes[row] = MISSING;
            sizes[row] = 0;
            return had;
        }

        /** The finding of who wants n items from i on; n can be any number. */
        int troubleWith(int row, int i, int n) {
            if (isMissing(row)) {
                return FOUND_NULL;
            }
            // By subtraction, since i + n could wrap around.
            return i < 0 || n < 0 || n > sizes[row] || i > sizes[row] - n ? FOUND_PLACE : 0;
        }

        int troubleBetween(int a, int i, int b, int j, int n) {
            if (isMissing(a) || isMissing(b)) {
                return FOUND_NULL;
            }
            if (lanes[a] != lanes[b]) {
                return FOUND_STORE;
            }
            int first = troubleWith(a, i, n);
            return first != 0 ? first : troubleWith(b, j, n);
        }

        void move(int a, int i, int b, int j, int n) {
            System.arraycopy(items[a], i, items[b], j, n);
        }

        int put(int row, int i, int v) {
            int kept = v;
            if (lanes[row] == 0) {
                kept = (byte) v;
            } else if (lanes[row] == 1) {
                kept = (short) v;
            }
            items[row][i] = kept;
            return kept;
        }

        int item(int row, int i) {
            return items[row][i];
        }

        /** What those of a group have together, the items from i on being told one for each. */
        long sumOf(int row, int i, int group) {
            long sum = 0;
            for (int one = 0; one < MOST_RAIDERS; one++) {
                if ((group >> one & 1) != 0) {
                    sum += items[row][i + one];
                }
            }
            return sum;
        }

        int present() {
            int rowsThere = 0;
            for (int row = 0; row < MOST; row++) {
                if (!isMissing(row)) {
                    rowsThere++;
                }
            }
            return rowsThere;
        }
    }

    /** An orchard as it was told, and in now all that acts have made of it since. */
    private static final class Orchard {
        boolean stands = false;
        int house = 0;
        int entry = 0;
        int ears = 0;
        int delay = 0;
        int dog = 0;
        int hens = 0;
        int trees = 0;
        int raiders = 0;
        /** Of each cell how loud all hens in it or beside it are. */
        final int[] loud = new int[CELLS];
        final int[] treeCell = new int[MOST_TREES];
        final int[] treeWorth = new int[MOST_TREES];
        final int[] kinds = new int[MOST_RAIDERS];
        final int[] full = new int[MOST_RAIDERS];
        final int[] now = new int[NOW_LENGTH];

        void clear() {
            hens = 0;
            trees = 0;
            raiders = 0;
            Arrays.fill(loud, 0);
            Arrays.fill(now, 0);
            for (int raider = 0; raider < MOST_RAIDERS; raider++) {
                now[PLAN_TREE + raider] = -1;
            }
        }

        void become(Orchard other) {
            stands = true;
            house = other.house;
            entry = other.entry;
            ears = other.ears;
            delay = other.delay;
            dog = other.dog;
            hens = other.hens;
            trees = other.trees;
            raiders = other.raiders;
            System.arraycopy(other.loud, 0, loud, 0, CELLS);
            System.arraycopy(other.treeCell, 0, treeCell, 0, MOST_TREES);
            System.arraycopy(other.treeWorth, 0, treeWorth, 0, MOST_TREES);
            System.arraycopy(other.kinds, 0, kinds, 0, MOST_RAIDERS);
            System.arraycopy(other.full, 0, full, 0, MOST_RAIDERS);
            System.arraycopy(other.now, 0, now, 0, NOW_LENGTH);
        }

        boolean hasRaider(int raider) {
            return raider >= 0 && raider < raiders;
        }

        boolean hasTree(int tree) {
            return tree >= 0 && tree < trees;
        }

        boolean canPlan(int raider) {
            return kinds[raider] < KIND_WATCH;
        }

        boolean hasPlan(int raider) {
            return now[PLAN_TREE + raider] >= 0;
        }

        boolean isPlanned() {
            for (int raider = 0; raider < raiders; raider++) {
                if (hasPlan(raider)) {
                    return true;
                }
            }
            return false;
        }

        boolean allPlan(int group) {
            for (int raider = 0; raider < raiders; raider++) {
                if ((group >> raider & 1) != 0 && !hasPlan(raider)) {
                    return false;
                }
            }
            return true;
        }

        void addHens(int cell, int howLoud) {
            hens++;
            for (int near = 0; near < CELLS; near++) {
                if (distance(near, cell) <= 1) {
                    loud[near] += howLoud;
                }
            }
        }
    }

    /** The tape, and the reading of an orchard from it, token by token, up to the first fault. */
    private static final class Reader {
        static final int MOST_BYTES = 120, MOST_FIGURES = 2;
        static final int NUMBER = 1, END = 2, NO_TOKEN = 3;
        static final int CANNOT_STAND = 1, NOT_AS_TOLD = 2, NO_ROOM = 3;
        // By the numbers of their kinds, less 1.
        static final String SORTS = "pqswk";

        final int[] tape = new int[MOST_BYTES];
        int length = 0;
        int fault = 0;
        int token = END;
        int number = 0;
        int place = 0;
        int behind = 0;

        boolean isFull() {
            return length >= MOST_BYTES;
        }

        int append(int letter) {
            tape[length] = letter;
            length++;
            return length;
        }

        /** The place of the first fault; -1: there is none. The tape is empty then. */
        int read(Orchard into) {
            behind = 0;
            advance();
            into.clear();
            boolean isRead = readLaw(into) && readHens(into) && readTrees(into) && readRaiders(into) && isAtEnd();
            length = 0;
            return isRead ? -1 : place;
        }

        private boolean readLaw(Orchard into) {
            if (!take('o')) {
                return false;
            }
            into.house = takeField(0, 23, 0, ',');
            if (into.house < 0) {
                return false;
            }
            into.entry = takeField(0, 23, 1 << into.house, ',');
            if (into.entry < 0) {
                return false;
            }
            into.ears = takeField(1, 60, 0, ',');
            if (into.ears < 0) {
                return false;
            }
            into.delay = takeField(0, 9, 0, ',');
            if (into.delay < 0) {
                return false;
            }
            into.dog = takeField(0, 40, 0, ';');
            return into.dog >= 0;
        }

        private boolean readHens(Orchard into) {
            for (int hen = 0; hen <= MOST_HENS && token == 'h'; hen++) {
                if (hen == MOST_HENS) {
                    return fail(NO_ROOM);
                }
                advance();
                int cell = takeField(0, 23, 0, ',');
                if (cell < 0) {
                    return false;
                }
                int loud = takeField(1, 9, 0, ';');
                if (loud < 0) {
                    return false;
                }
                into.addHens(cell, loud);
            }
            return true;
        }

        private boolean readTrees(Orchard into) {
            int taken = 1 << into.entry;
            for (int tree = 0; tree <= MOST_TREES && token == 't'; tree++) {
                if (tree == MOST_TREES) {
                    return fail(NO_ROOM);
                }
                advance();
                into.treeCell[tree] = takeField(0, 23, taken, ',');
                if (into.treeCell[tree] < 0) {
                    return false;
                }
                taken |= 1 << into.treeCell[tree];
                into.now[APPLES + tree] = takeField(0, 30, 0, ',');
                if (into.now[APPLES + tree] < 0) {
                    return false;
                }
                into.treeWorth[tree] = takeField(0, 9, 0, ';');
                if (into.treeWorth[tree] < 0) {
                    return false;
                }
                into.trees = tree + 1;
            }
            return true;
        }

        private boolean readRaiders(Orchard into) {
            for (int raider = 0; raider <= MOST_RAIDERS && SORTS.indexOf((char) token) >= 0; raider++) {
                if (raider == MOST_RAIDERS) {
                    return fail(NO_ROOM);
                }
                into.kinds[raider] = SORTS.indexOf((char) token) + 1;
                advance();
                into.full[raider] = takeField(1, 20, 0, ';');
                if (into.full[raider] < 0) {
                    return false;
                }
                into.raiders = raider + 1;
            }
            return true;
        }

        private boolean isAtEnd() {
            return token == END || fail(CANNOT_STAND);
        }

        private boolean fail(int number) {
            fault = number;
            return false;
        }

        private boolean take(int wanted) {
            if (token != wanted) {
                return fail(CANNOT_STAND);
            }
            advance();
            return true;
        }

        /** A number, none of the forbidden ones (bits), and the sign behind it; -1: a fault. */
        private int takeField(int low, int high, int forbidden, int sign) {
            if (token != NUMBER) {
                fail(CANNOT_STAND);
                return -1;
            }
            int told = number;
            if (told < low || told > high || forbidden != 0 && (forbidden >> told & 1) != 0) {
                fail(NOT_AS_TOLD);
                return -1;
            }
            advance();
            return take(sign) ? told : -1;
        }

        private void advance() {
            place = behind;
            if (behind >= length) {
                token = END;
                return;
            }
            int letter = tape[behind];
            if (isFigure(letter)) {
                advanceOverFigures();
                return;
            }
            boolean isToken = letter >= 'a' && letter <= 'z' || letter == ',' || letter == ';';
            token = isToken ? letter : NO_TOKEN;
            behind++;
        }

        private void advanceOverFigures() {
            number = 0;
            while (behind < length && isFigure(tape[behind]) && behind - place <= MOST_FIGURES) {
                number = number * 10 + tape[behind] - '0';
                behind++;
            }
            token = behind - place <= MOST_FIGURES ? NUMBER : NO_TOKEN;
        }

        private static boolean isFigure(int letter) {
            return letter >= '0' && letter <= '9';
        }
    }

    /** The latest acts, each as what was ahead of it, in a ring. */
    private static final class Acts {
        static final int MOST = 24;

        final int[][] before = new int[MOST][NOW_LENGTH];
        int next = 0;
        int kept = 0;

        void keep(Orchard orchard) {
            System.arraycopy(orchard.now, 0, before[next], 0, NOW_LENGTH);
            next = (next + 1) % MOST;
            kept = Math.min(kept + 1, MOST);
        }

        boolean takeBack(Orchard orchard) {
            if (kept == 0) {
                return false;
            }
            next = (next + MOST - 1) % MOST;
            kept--;
            System.arraycopy(before[next], 0, orchard.now, 0, NOW_LENGTH);
            return true;
        }

        void forget() {
            kept = 0;
        }
    }

    /** One raid, second by second; the orchard stays as it is until the raid is left behind in it. */
    private static final class Raid {
        static final int LAST_SECOND = 150, SECONDS_OF_A_PICK = 2, SISTERS_DELAY = 2;
        static final int AWAY = 0, GOING = 1, PICKING = 2, COMING_BACK = 3, OUT = 4, IS_CAUGHT = 5;

        final Orchard orchard;
        int delay = 0;
        int noise = 0;
        int second = 0;
        int door = 0;
        int last = 0;
        int inside = 0;
        final int[] left = new int[MOST_TREES];
        final int[] goal = new int[MOST_RAIDERS];
        final int[] planned = new int[MOST_RAIDERS];
        final int[] how = new int[MOST_RAIDERS];
        final int[] doing = new int[MOST_RAIDERS];
        final int[] seconds = new int[MOST_RAIDERS];
        final int[] steps = new int[MOST_RAIDERS];
        final int[] load = new int[MOST_RAIDERS];
        final int[] had = new int[MOST_RAIDERS];
        final int[] outAt = new int[MOST_RAIDERS];

        Raid(Orchard orchard) {
            this.orchard = orchard;
        }

        /** A group is there by its plans, with the trees as they are. */
        void gather(int group) {
            System.arraycopy(orchard.now, APPLES, left, 0, MOST_TREES);
            boolean isWatched = false;
            boolean hasSister = false;
            for (int raider = 0; raider < MOST_RAIDERS; raider++) {
                boolean isThere = orchard.hasRaider(raider) && (group >> raider & 1) != 0;
                goal[raider] = isThere ? orchard.now[PLAN_TREE + raider] : -1;
                planned[raider] = orchard.now[PLAN_APPLES + raider];
                how[raider] = orchard.now[PLAN_HOW + raider];
                isWatched = isWatched || isThere && orchard.kinds[raider] == KIND_WATCH;
                hasSister = hasSister || isThere && orchard.kinds[raider] == KIND_SISTER;
            }
            delay = orchard.delay;
            if (isWatched) {
                delay = 0;
            } else if (hasSister) {
                delay = Math.min(delay, SISTERS_DELAY);
            }
        }

        void tell(int raider, int tree, int apples, int way) {
            goal[raider] = tree;
            planned[raider] = apples;
            how[raider] = way;
        }

        /** Runs from what is left on the trees: run again, it is the next raid. */
        void run() {
            inside = 0;
            for (int raider = 0; raider < MOST_RAIDERS; raider++) {
                doing[raider] = goal[raider] >= 0 ? GOING : AWAY;
                inside += goal[raider] >= 0 ? 1 : 0;
                seconds[raider] = 0;
                steps[raider] = 0;
                load[raider] = 0;
                had[raider] = 0;
                outAt[raider] = 0;
            }
            noise = 0;
            door = 0;
            last = 0;
            for (second = 1; second <= LAST_SECOND && inside > 0; second++) {
                last = second;
                for (int raider = 0; raider < MOST_RAIDERS; raider++) {
                    move(raider);
                }
                endSecond();
            }
        }

        private boolean isIn(int raider) {
            return doing[raider] >= GOING && doing[raider] <= COMING_BACK;
        }

        private void move(int raider) {
            if (!isIn(raider)) {
                return;
            }
            seconds[raider]++;
            if (doing[raider] == PICKING) {
                if (seconds[raider] >= SECONDS_OF_A_PICK) {
                    seconds[raider] = 0;
                    pick(raider);
                }
            } else if (seconds[raider] >= pace(raider)) {
                seconds[raider] = 0;
                step(raider);
            }
        }

        private int pace(int raider) {
            if (orchard.kinds[raider] == KIND_STOUT) {
                return 2 + load[raider] / 12;
            }
            return (orchard.kinds[raider] == KIND_QUICK ? 1 : 2) + load[raider] / 6;
        }

        private void step(int raider) {
            boolean isGoing = doing[raider] == GOING;
            steps[raider] += isGoing ? 1 : -1;
            int goalCell = orchard.treeCell[goal[raider]];
            noise += orchard.loud[cellOnWay(orchard.entry, goalCell, steps[raider])];
            if (isGoing && steps[raider] == distance(orchard.entry, goalCell)) {
                doing[raider] = PICKING;
            } else if (!isGoing && steps[raider] == 0) {
                leave(raider);
            }
        }

        private static int cellOnWay(int from, int to, int steps) {
            int wide = to % CELLS_WIDE - from % CELLS_WIDE;
            int along = Math.min(steps, Math.abs(wide));
            int high = to / CELLS_WIDE - from / CELLS_WIDE;
            return from + along * Integer.signum(wide) + (steps - along) * Integer.signum(high) * CELLS_WIDE;
        }

        private void pick(int raider) {
            int tree = goal[raider];
            if (left[tree] > 0) {
                left[tree]--;
                had[raider]++;
                noise++;
                if (how[raider] == 1) {
                    noise++;
                } else {
                    load[raider]++;
                }
            }
            if (had[raider] >= planned[raider] || load[raider] >= orchard.full[raider] || left[tree] == 0) {
                doing[raider] = COMING_BACK;
            }
        }

        private void leave(int raider) {
            doing[raider] = OUT;
            outAt[raider] = second;
            inside--;
        }

        private void endSecond() {
            if (door == 0 && noise >= orchard.ears) {
                door = second;
            }
            if (door > 0 && second - door == delay) {
                callBack();
            }
            boolean isDogThere = door > 0
                    && second - door == orchard.dog + distance(orchard.house, orchard.entry);
            if (isDogThere || second == LAST_SECOND) {
                catchAll();
            }
        }

        private void callBack() {
            for (int raider = 0; raider < MOST_RAIDERS; raider++) {
                if (doing[raider] == GOING || doing[raider] == PICKING) {
                    doing[raider] = COMING_BACK;
                    seconds[raider] = 0;
                    if (steps[raider] == 0) {
                        leave(raider);
                    }
                }
            }
        }

        private void catchAll() {
            for (int raider = 0; raider < MOST_RAIDERS; raider++) {
                if (isIn(raider)) {
                    doing[raider] = IS_CAUGHT;
                    inside--;
                }
            }
        }

        boolean isOut(int raider) {
            return doing[raider] == OUT;
        }

        /** What he threw is got though he was caught; what he carried is not. */
        int applesGot(int raider) {
            return how[raider] == 1 || isOut(raider) ? had[raider] : 0;
        }

        int gotByAll() {
            int got = 0;
            for (int raider = 0; raider < MOST_RAIDERS; raider++) {
                if (goal[raider] >= 0) {
                    got += applesGot(raider) * orchard.treeWorth[goal[raider]];
                }
            }
            return got;
        }

        int caughtBits() {
            int bits = 0;
            for (int raider = 0; raider < MOST_RAIDERS; raider++) {
                if (doing[raider] == IS_CAUGHT) {
                    bits |= 1 << raider;
                }
            }
            return bits;
        }

        /** The raid was: the orchard is as it left it. */
        void leaveBehind() {
            System.arraycopy(left, 0, orchard.now, APPLES, MOST_TREES);
            for (int raider = 0; raider < MOST_RAIDERS; raider++) {
                if (doing[raider] == IS_CAUGHT) {
                    orchard.now[CAUGHT + raider]++;
                }
            }
            orchard.now[RAIDS]++;
            orchard.now[GOT] += gotByAll();
        }
    }

    /** On which days to go, against one who knows that too, in whole numbers throughout. */
    private static final class Days {
        static final int MOST = 20;

        /** Of each day what lies between Pratt's being there and not: what one gets and what is lost, 1 to 40. */
        final int[] stakes = new int[DAYS_TOLD];
        int bestSet = 0;
        long bestAbove = 0;
        long bestBelow = 1;

        /**
         * With odds as 1 by the stakes it is all one where Pratt sits: each loses the same then, and the value
         * of a set of n days is (n - 1) by the sum of 1 by the stakes, less what is lost.
         */
        void solve(int lost) {
            bestSet = 0;
            for (int days = 1; days < 1 << DAYS_TOLD; days++) {
                long product = product(days);
                long below = sumOfParts(days, product);
                long above = (Integer.bitCount(days) - 1) * product - lost * below;
                long common = commonPart(above, below);
                above /= common;
                below /= common;
                // No wrap-around: below is at most 6 * 40^5, above at most 20 times that.
                if (bestSet == 0 || above * bestBelow > bestAbove * below) {
                    bestSet = days;
                    bestAbove = above;
                    bestBelow = below;
                }
            }
        }

        /** The odds of a day by the best set. */
        long odds(int day, boolean isAbove) {
            if ((bestSet >> day & 1) == 0) {
                return isAbove ? 0 : 1;
            }
            long product = product(bestSet);
            long below = sumOfParts(bestSet, product);
            long above = part(product, day);
            return (isAbove ? above : below) / commonPart(above, below);
        }

        private long product(int days) {
            long product = 1;
            for (int day = 0; day < DAYS_TOLD; day++) {
                if ((days >> day & 1) != 0) {
                    product *= stakes[day];
                }
            }
            return product;
        }

        private long sumOfParts(int days, long product) {
            long sum = 0;
            for (int day = 0; day < DAYS_TOLD; day++) {
                if ((days >> day & 1) != 0) {
                    sum += part(product, day);
                }
            }
            return sum;
        }

        private long part(long product, int day) {
            return stakes[day] > 0 ? product / stakes[day] : 0;
        }
    }

    /** The hours at which the dog slept, or did not. */
    private static final class Book {
        static final int MOST_LINES = 16;

        final int[] hours = new int[MOST_LINES];
        final int[] slept = new int[MOST_LINES];
        int lines = 0;

        boolean isFull() {
            return lines >= MOST_LINES;
        }

        int append(int hour, int didSleep) {
            hours[lines] = hour;
            slept[lines] = didSleep;
            lines++;
            return lines;
        }

        int empty() {
            int had = lines;
            lines = 0;
            return had;
        }

        int linesOf(int hour) {
            int found = 0;
            for (int line = 0; line < lines; line++) {
                if (hours[line] == hour) {
                    found++;
                }
            }
            return found;
        }

        int sleptIn(int hour) {
            int found = 0;
            for (int line = 0; line < lines; line++) {
                if (hours[line] == hour) {
                    found += slept[line];
                }
            }
            return found;
        }

        int quietestHour() {
            int best = NONE;
            int bestSlept = 0;
            int bestLines = 0;
            for (int hour = 0; hour < HOURS; hour++) {
                int sleptThen = sleptIn(hour);
                int linesThen = linesOf(hour);
                if (linesThen > 0 && (bestLines == 0 || sleptThen * bestLines > bestSlept * linesThen)) {
                    best = hour;
                    bestSlept = sleptThen;
                    bestLines = linesThen;
                }
            }
            return best;
        }
    }
}
