import java.math.BigInteger;
import java.util.ArrayDeque;
import java.util.ArrayList;
import java.util.Deque;
import java.util.List;
import java.util.TreeMap;
import java.util.function.IntPredicate;

/**
 * The document written a second time, by other means than the class (lists, objects, great numbers, real kinds),
 * so that ModelTest can hold the two against one another.
 */
final class Model {
    static final int NONE = -1000000, BAD = -1000001, STATE = -1000002, FULL = -1000003;

    // ---- state

    static final class Row {
        final int lane;
        final int[] items;

        Row(int lane, int n) {
            this.lane = lane;
            this.items = new int[n];
        }
    }

    record Plan(int tree, int apples, int how) {
    }

    static final class Garden {
        int[] law;
        List<int[]> hens = new ArrayList<>();
        List<int[]> trees = new ArrayList<>();
        List<Being> beings = new ArrayList<>();
        int raids = 0;
        int got = 0;

        Garden copy() {
            Garden other = new Garden();
            other.law = law.clone();
            hens.forEach(hen -> other.hens.add(hen.clone()));
            trees.forEach(tree -> other.trees.add(tree.clone()));
            for (Being being : beings) {
                Being twin = Being.of(being.sort, being.number, being.full);
                twin.plan = being.plan;
                twin.caught = being.caught;
                other.beings.add(twin);
            }
            other.raids = raids;
            other.got = got;
            return other;
        }
    }

    interface Lent {
        int full();

        int number();

        List<Integer> traced();

        default int size() {
            traced().add(10);
            return full();
        }

        default int mark() {
            traced().add(20);
            return number();
        }
    }

    abstract static class Being implements Lent {
        final char sort;
        final int number;
        final int full;
        Plan plan = null;
        int caught = 0;
        List<Integer> traced = new ArrayList<>();

        Being(char sort, int number, int full) {
            this.sort = sort;
            this.number = number;
            this.full = full;
        }

        static Being of(char sort, int number, int full) {
            switch (sort) {
                case 'p': return new Picker(sort, number, full);
                case 'q': return new Quick(sort, number, full);
                case 's': return new Stout(sort, number, full);
                case 'w': return new Watch(sort, number, full);
                default: return new Sister(sort, number, full);
            }
        }

        @Override
        public int full() {
            return full;
        }

        @Override
        public int number() {
            return number;
        }

        @Override
        public List<Integer> traced() {
            return traced;
        }
    }

    static class Picker extends Being {
        Picker(char sort, int number, int full) {
            super(sort, number, full);
        }

        @Override
        public int size() {
            traced.add(11);
            return super.size() + mark();
        }

        @Override
        public int mark() {
            traced.add(21);
            return super.mark() + (plan == null ? 0 : plan.apples());
        }
    }

    static final class Quick extends Picker {
        Quick(char sort, int number, int full) {
            super(sort, number, full);
        }

        @Override
        public int size() {
            traced.add(12);
            return 0 - super.size();
        }

        @Override
        public int mark() {
            traced.add(24);
            return super.mark() * 2;
        }
    }

    static final class Stout extends Picker {
        Stout(char sort, int number, int full) {
            super(sort, number, full);
        }

        @Override
        public int mark() {
            traced.add(22);
            return super.mark() - 1000;
        }
    }

    static class Watch extends Being {
        Watch(char sort, int number, int full) {
            super(sort, number, full);
        }

        @Override
        public int size() {
            traced.add(13);
            return super.size() - 100;
        }

        @Override
        public int mark() {
            traced.add(23);
            return super.mark() - size();
        }
    }

    static final class Sister extends Watch {
        Sister(char sort, int number, int full) {
            super(sort, number, full);
        }

        @Override
        public int size() {
            traced.add(14);
            return super.size() * 2;
        }
    }

    private final Row[] rows = new Row[8];
    private int status = 0;
    private StringBuilder tape = new StringBuilder();
    private int fault = 0;
    private Garden garden = null;
    private final Garden[] images = new Garden[2];
    private final Deque<Garden> acts = new ArrayDeque<>();
    private final List<int[]> book = new ArrayList<>();
    private List<Integer> trace = new ArrayList<>();

    // ---- the calls, by name

    long call(String name, int... a) {
        switch (name) {
            case "row": return row(a[0], a[1], a[2]);
            case "set": return set(a[0], a[1], a[2]);
            case "copy": return copy(a[0], a[1], a[2], a[3], a[4]);
            case "drop": return drop(a[0]);
            case "feed": return feed(a[0]);
            case "orchard": return orchard();
            case "fault": return fault;
            case "undo": return undo();
            case "plan": return plan(a[0], a[1], a[2], a[3]);
            case "raid": return raid();
            case "grow": return grow(a[0], a[1]);
            case "write": return write(a[0], a[1]);
            case "tear": return tear();
            case "raider": return raider(a[0], a[1]);
            case "tree": return tree(a[0], a[1]);
            case "far": return in(a[0], 0, 23) && in(a[1], 0, 23) ? path(a[0], a[1]).size() - 1 : BAD;
            case "ahead": return ahead(a[0]);
            case "raiderAhead": return raiderAhead(a[0], a[1]);
            case "safe": return safe(a[0], a[1], a[2]);
            case "bestAlone": return bestAlone(a[0], a[1]);
            case "watch": return watch(a[0]);
            case "days": return days(a[0], a[1], a[2], 0, 0, true);
            case "daysValue": return days(a[0], a[1], a[2], a[3], a[4], false);
            case "shares": return shares(a[0], a[1]);
            case "bare": return bare(a[0]);
            case "who": return who(a[0], a[1], a[2]);
            case "sleep": return sleep(a[0], a[1]);
            case "quietest": return quietest();
            case "image": return image(a[0]);
            case "restore": return restore(a[0]);
            case "kind": return hasBeing(a[0]) ? "?pqswk".indexOf(garden.beings.get(a[0]).sort) : BAD;
            case "as": return as(a[0], a[1]);
            case "ask": return ask(a[0], a[1]);
            case "trace": return a[0] >= 0 && a[0] < trace.size() ? trace.get(a[0]) : NONE;
            case "count": return count(a[0]);
            case "status": return status;
            default: throw new IllegalArgumentException(name);
        }
    }

    private static boolean in(int v, int low, int high) {
        return v >= low && v <= high;
    }

    private boolean hasBeing(int one) {
        return garden != null && in(one, 0, garden.beings.size() - 1);
    }

    private boolean hasTree(int tree) {
        return garden != null && in(tree, 0, garden.trees.size() - 1);
    }

    private boolean watches(int one) {
        return garden.beings.get(one) instanceof Watch;
    }

    private int finding(int number) {
        status = number;
        return -1000010 - number;
    }

    // ---- rows

    private int row(int row, int lane, int n) {
        if (!in(row, 0, 7) || !in(lane, 0, 2) || n > 40) {
            return BAD;
        }
        if (n < 0) {
            return finding(4);
        }
        rows[row] = new Row(lane, n);
        status = 0;
        return n;
    }

    private int set(int row, int i, int v) {
        if (!in(row, 0, 7)) {
            return BAD;
        }
        if (rows[row] == null) {
            return finding(1);
        }
        if (!in(i, 0, rows[row].items.length - 1)) {
            return finding(2);
        }
        int bits = 8 << rows[row].lane;
        rows[row].items[i] = BigInteger.valueOf(v).shiftLeft(32 - bits).intValue() >> (32 - bits);
        status = 0;
        return rows[row].items[i];
    }

    private boolean holds(int row, long i, long n) {
        return i >= 0 && n >= 0 && i + n <= rows[row].items.length;
    }

    private int copy(int a, int i, int b, int j, int n) {
        if (!in(a, 0, 7) || !in(b, 0, 7)) {
            return BAD;
        }
        if (rows[a] == null || rows[b] == null) {
            return finding(1);
        }
        if (rows[a].lane != rows[b].lane) {
            return finding(5);
        }
        if (!holds(a, i, n) || !holds(b, j, n)) {
            return finding(2);
        }
        int[] before = rows[a].items.clone();
        for (int k = 0; k < n; k++) {
            rows[b].items[j + k] = before[i + k];
        }
        status = 0;
        return n;
    }

    private int drop(int row) {
        if (!in(row, 0, 7)) {
            return BAD;
        }
        if (rows[row] == null) {
            return finding(1);
        }
        int n = rows[row].items.length;
        rows[row] = null;
        status = 0;
        return n;
    }

    // ---- texts: all tokens first, then each against what may stand there

    private int feed(int letter) {
        if (!in(letter, 0, 255)) {
            return BAD;
        }
        if (tape.length() == 120) {
            return FULL;
        }
        tape.append((char) letter);
        return tape.length();
    }

    private record Token(String text, int place) {
        boolean isNumber() {
            return text.matches("[0-9]{1,2}");
        }

        int number() {
            return Integer.parseInt(text);
        }
    }

    private static final class Fault extends RuntimeException {
        private static final long serialVersionUID = 1;

        final int place;
        final int number;

        Fault(int place, int number) {
            this.place = place;
            this.number = number;
        }
    }

    private static List<Token> tokens(String text) {
        List<Token> tokens = new ArrayList<>();
        int at = 0;
        while (at < text.length()) {
            int end = at + 1;
            if (Character.toString(text.charAt(at)).matches("[0-9]")) {
                while (end < text.length() && Character.toString(text.charAt(end)).matches("[0-9]")) {
                    end++;
                }
            }
            tokens.add(new Token(text.substring(at, end), at));
            at = end;
        }
        tokens.add(new Token("", text.length()));
        return tokens;
    }

    private int orchard() {
        String text = tape.toString();
        tape = new StringBuilder();
        try {
            garden = read(new ArrayDeque<>(tokens(text)));
        } catch (Fault found) {
            fault = found.number;
            return -1000100 - found.place;
        }
        acts.clear();
        return garden.trees.size();
    }

    private static int number(Deque<Token> tokens, String sign, IntPredicate told) {
        Token token = tokens.peek();
        if (!token.isNumber()) {
            throw new Fault(token.place(), 1);
        }
        if (!told.test(token.number())) {
            throw new Fault(token.place(), 2);
        }
        tokens.poll();
        letter(tokens, sign);
        return token.number();
    }

    private static void letter(Deque<Token> tokens, String wanted) {
        if (!tokens.peek().text().equals(wanted)) {
            throw new Fault(tokens.peek().place(), 1);
        }
        tokens.poll();
    }

    private static Garden read(Deque<Token> tokens) {
        Garden g = new Garden();
        letter(tokens, "o");
        int house = number(tokens, ",", v -> v <= 23);
        int entry = number(tokens, ",", v -> v <= 23 && v != house);
        int ears = number(tokens, ",", v -> in(v, 1, 60));
        int delay = number(tokens, ",", v -> v <= 9);
        int dog = number(tokens, ";", v -> v <= 40);
        g.law = new int[] {house, entry, ears, delay, dog};
        int stage = 0;
        while (!tokens.peek().text().isEmpty()) {
            Token token = tokens.peek();
            String kinds = "htpqswk";
            int which = token.text().length() == 1 ? kinds.indexOf(token.text()) : -1;
            if (which < 0 || Math.min(which, 2) < stage) {
                throw new Fault(token.place(), 1);
            }
            stage = Math.min(which, 2);
            int there = stage == 0 ? g.hens.size() : stage == 1 ? g.trees.size() : g.beings.size();
            if (there == new int[] {3, 6, 4}[stage]) {
                throw new Fault(token.place(), 3);
            }
            tokens.poll();
            if (stage == 0) {
                int cell = number(tokens, ",", v -> v <= 23);
                g.hens.add(new int[] {cell, number(tokens, ";", v -> in(v, 1, 9))});
            } else if (stage == 1) {
                int cell = number(tokens, ",", v -> v <= 23 && v != entry
                        && g.trees.stream().noneMatch(tree -> tree[0] == v));
                int apples = number(tokens, ",", v -> v <= 30);
                g.trees.add(new int[] {cell, apples, number(tokens, ";", v -> v <= 9)});
            } else {
                int full = number(tokens, ";", v -> in(v, 1, 20));
                g.beings.add(Being.of(token.text().charAt(0), g.beings.size(), full));
            }
        }
        return g;
    }

    // ---- acts

    private void act() {
        acts.addLast(garden.copy());
        if (acts.size() > 24) {
            acts.removeFirst();
        }
    }

    private int undo() {
        if (acts.isEmpty()) {
            return STATE;
        }
        garden = acts.removeLast();
        return acts.size();
    }

    private int plan(int one, int tree, int apples, int how) {
        if (!hasBeing(one) || tree != -1 && !(hasTree(tree) && in(apples, 1, 20) && in(how, 0, 1))) {
            return BAD;
        }
        if (watches(one)) {
            return STATE;
        }
        act();
        Being being = garden.beings.get(one);
        boolean had = being.plan != null;
        being.plan = tree == -1 ? null : new Plan(tree, apples, how);
        return had ? 1 : 0;
    }

    private int grow(int tree, int n) {
        if (!hasTree(tree) || !in(n, 1, 30)) {
            return BAD;
        }
        if (garden.trees.get(tree)[1] + n > 60) {
            return FULL;
        }
        act();
        return garden.trees.get(tree)[1] += n;
    }

    // ---- a raid

    private static List<Integer> path(int from, int to) {
        List<Integer> cells = new ArrayList<>();
        int x = from % 6;
        int y = from / 6;
        cells.add(from);
        while (x != to % 6) {
            x += x < to % 6 ? 1 : -1;
            cells.add(6 * y + x);
        }
        while (y != to / 6) {
            y += y < to / 6 ? 1 : -1;
            cells.add(6 * y + x);
        }
        return cells;
    }

    private static final class Goer {
        Being being;
        Plan plan;
        List<Integer> way;
        int at = 0;
        String does = "GO";
        int seconds = 0;
        int load = 0;
        int thrown = 0;
        int out = NONE;

        int pace() {
            if (being instanceof Stout) {
                return 2 + load / 12;
            }
            return 2 + load / 6 - (being instanceof Quick ? 1 : 0);
        }

        boolean isIn() {
            return !does.equals("OUT") && !does.equals("CAUGHT");
        }

        int got() {
            return thrown + (does.equals("OUT") ? load : 0);
        }
    }

    private static final class Outcome {
        TreeMap<Integer, Goer> goers = new TreeMap<>();
        int noise = 0;
        int door = NONE;
        int last = 0;
        int got = 0;
        int caught = 0;
    }

    /** Plans by raiders who go; changes the trees that it is given. */
    private static Outcome run(Garden g, List<int[]> trees, TreeMap<Integer, Plan> plans, int delay) {
        Outcome o = new Outcome();
        plans.forEach((one, plan) -> {
            Goer goer = new Goer();
            goer.being = g.beings.get(one);
            goer.plan = plan;
            goer.way = path(g.law[1], trees.get(plan.tree())[0]);
            o.goers.put(one, goer);
        });
        int arrival = g.law[4] + path(g.law[0], g.law[1]).size() - 1;
        while (o.goers.values().stream().anyMatch(Goer::isIn)) {
            o.last++;
            for (Goer goer : o.goers.values()) {
                if (goer.isIn()) {
                    second(g, trees, o, goer);
                }
            }
            if (o.noise >= g.law[2] && o.door == NONE) {
                o.door = o.last;
            }
            for (Goer goer : o.goers.values()) {
                boolean busy = goer.does.equals("GO") || goer.does.equals("PICK");
                if (o.door != NONE && o.last == o.door + delay && busy) {
                    goer.does = goer.at == 0 ? "OUT" : "BACK";
                    goer.out = goer.at == 0 ? o.last : NONE;
                    goer.seconds = 0;
                }
                if ((o.door != NONE && o.last == o.door + arrival || o.last == 150) && goer.isIn()) {
                    goer.does = "CAUGHT";
                }
            }
        }
        o.goers.forEach((one, goer) -> {
            o.got += goer.got() * trees.get(goer.plan.tree())[2];
            o.caught += goer.does.equals("CAUGHT") ? 1 << one : 0;
        });
        return o;
    }

    private static void second(Garden g, List<int[]> trees, Outcome o, Goer goer) {
        goer.seconds++;
        int[] tree = trees.get(goer.plan.tree());
        if (goer.does.equals("PICK")) {
            if (goer.seconds < 2) {
                return;
            }
            goer.seconds = 0;
            if (tree[1] > 0) {
                tree[1]--;
                o.noise += goer.plan.how() == 1 ? 2 : 1;
                goer.load += goer.plan.how() == 1 ? 0 : 1;
                goer.thrown += goer.plan.how() == 1 ? 1 : 0;
            }
            if (goer.load + goer.thrown == goer.plan.apples() || goer.load == goer.being.full || tree[1] == 0) {
                goer.does = "BACK";
            }
            return;
        }
        if (goer.seconds < goer.pace()) {
            return;
        }
        goer.seconds = 0;
        goer.at += goer.does.equals("GO") ? 1 : -1;
        int cell = goer.way.get(goer.at);
        for (int[] hen : g.hens) {
            int across = Math.abs(hen[0] % 6 - cell % 6);
            int down = Math.abs(hen[0] / 6 - cell / 6);
            if (across == 0 && down <= 1 || down == 0 && across == 1) {
                o.noise += hen[1];
            }
        }
        if (goer.does.equals("GO") && goer.at == goer.way.size() - 1) {
            goer.does = "PICK";
        } else if (goer.does.equals("BACK") && goer.at == 0) {
            goer.does = "OUT";
            goer.out = o.last;
        }
    }

    private List<int[]> treesNow() {
        return garden.copy().trees;
    }

    private TreeMap<Integer, Plan> plansOf(int set) {
        TreeMap<Integer, Plan> plans = new TreeMap<>();
        for (Being being : garden.beings) {
            if ((set >> being.number & 1) != 0 && being.plan != null) {
                plans.put(being.number, being.plan);
            }
        }
        return plans;
    }

    private int delayOf(int set) {
        boolean watch = false;
        boolean sister = false;
        for (Being being : garden.beings) {
            boolean there = (set >> being.number & 1) != 0;
            watch |= there && being.sort == 'w';
            sister |= there && being.sort == 'k';
        }
        return watch ? 0 : sister && garden.law[3] > 2 ? 2 : garden.law[3];
    }

    private Outcome run(int set, List<int[]> trees) {
        return run(garden, trees, plansOf(set), delayOf(set));
    }

    private int raid() {
        if (garden == null || plansOf(15).isEmpty()) {
            return STATE;
        }
        if (garden.raids == 99) {
            return FULL;
        }
        act();
        Outcome o = run(15, garden.trees);
        garden.raids++;
        garden.got += o.got;
        garden.beings.forEach(being -> being.caught += o.caught >> being.number & 1);
        return o.got;
    }

    private int ahead(int what) {
        if (garden == null) {
            return STATE;
        }
        if (!in(what, 0, 3)) {
            return BAD;
        }
        Outcome o = run(15, treesNow());
        return new int[] {o.got, o.caught, o.door, o.last}[what];
    }

    private int raiderAhead(int one, int what) {
        if (!hasBeing(one) || !in(what, 0, 1)) {
            return BAD;
        }
        Goer goer = run(15, treesNow()).goers.get(one);
        if (goer == null) {
            return what == 0 ? NONE : 0;
        }
        return what == 0 ? goer.out : goer.got();
    }

    private Outcome alone(int one, Plan plan) {
        TreeMap<Integer, Plan> plans = new TreeMap<>();
        plans.put(one, plan);
        return run(garden, treesNow(), plans, garden.law[3]);
    }

    private int safe(int one, int tree, int how) {
        if (!hasBeing(one) || !hasTree(tree) || !in(how, 0, 1)) {
            return BAD;
        }
        if (watches(one)) {
            return STATE;
        }
        for (int apples = 20; apples >= 1; apples--) {
            if (alone(one, new Plan(tree, apples, how)).caught == 0) {
                return apples;
            }
        }
        return 0;
    }

    private int bestAlone(int one, int what) {
        if (!hasBeing(one) || !in(what, 0, 3)) {
            return BAD;
        }
        if (watches(one)) {
            return STATE;
        }
        int[] best = {NONE, NONE, NONE, NONE};
        for (int tree = garden.trees.size() - 1; tree >= 0; tree--) {
            for (int apples = 20; apples >= 1; apples--) {
                for (int how = 1; how >= 0; how--) {
                    Outcome o = alone(one, new Plan(tree, apples, how));
                    if (o.caught == 0 && o.got >= best[3]) {
                        best = new int[] {tree, apples, how, o.got};
                    }
                }
            }
        }
        return best[what];
    }

    private int watch(int one) {
        if (!hasBeing(one)) {
            return BAD;
        }
        if (garden.beings.get(one).plan == null) {
            return STATE;
        }
        int got = run(15, treesNow()).got;
        Garden before = garden;
        garden = garden.copy();
        garden.beings.set(one, Being.of('w', one, before.beings.get(one).full));
        int then = run(15, treesNow()).got;
        garden = before;
        return then - got;
    }

    // ---- rows that tell

    private long days(int row, int i, int l, int day, int what, boolean asksSet) {
        if (!in(row, 0, 7) || !in(l, 1, 20) || !in(day, -1, 5) || !in(what, 0, 1)) {
            return BAD;
        }
        if (rows[row] == null) {
            return finding(1);
        }
        if (!holds(row, i, 6)) {
            return finding(2);
        }
        for (int d = 0; d < 6; d++) {
            if (!in(rows[row].items[i + d], 0, 20)) {
                return BAD;
            }
        }
        status = 0;
        int bestSet = 0;
        BigInteger[] best = null;
        for (int set = 63; set >= 1; set--) {
            BigInteger[] parts = parts(rows[row].items, i, l, set);
            BigInteger above = parts[6].multiply(BigInteger.valueOf(Integer.bitCount(set) - 1))
                    .subtract(parts[7].multiply(BigInteger.valueOf(l)));
            if (best == null || above.multiply(best[1]).compareTo(best[0].multiply(parts[7])) >= 0) {
                best = new BigInteger[] {above, parts[7]};
                bestSet = set;
            }
        }
        if (asksSet) {
            return bestSet;
        }
        if (day >= 0) {
            BigInteger[] parts = parts(rows[row].items, i, l, bestSet);
            best = new BigInteger[] {parts[day], parts[7]};
        }
        return best[what].divide(best[0].gcd(best[1])).longValueExact();
    }

    /** Of each day the product of the others' stakes (0: not in the set), then the product of all, then the sum. */
    private static BigInteger[] parts(int[] items, int i, int l, int set) {
        BigInteger[] parts = new BigInteger[8];
        parts[6] = BigInteger.ONE;
        parts[7] = BigInteger.ZERO;
        for (int day = 0; day < 6; day++) {
            parts[day] = BigInteger.ZERO;
            if ((set >> day & 1) != 0) {
                parts[6] = parts[6].multiply(BigInteger.valueOf(items[i + day] + l));
            }
        }
        for (int day = 0; day < 6; day++) {
            if ((set >> day & 1) != 0) {
                parts[day] = parts[6].divide(BigInteger.valueOf(items[i + day] + l));
                parts[7] = parts[7].add(parts[day]);
            }
        }
        return parts;
    }

    private int shares(int row, int i) {
        if (garden == null) {
            return STATE;
        }
        if (!in(row, 0, 7)) {
            return BAD;
        }
        if (rows[row] == null) {
            return finding(1);
        }
        int n = garden.beings.size();
        if (!holds(row, i, n)) {
            return finding(2);
        }
        status = 0;
        int answer = 0;
        for (int set = (1 << n) - 1; set >= 0; set--) {
            long have = 0;
            for (int one = 0; one < n; one++) {
                have += (set >> one & 1) * (long) rows[row].items[i + one];
            }
            int get = run(set, treesNow()).got;
            if (set == (1 << n) - 1 && have != get) {
                return NONE;
            }
            if (get > have) {
                answer = set;
            }
        }
        return answer;
    }

    private int bare(int what) {
        if (garden == null) {
            return STATE;
        }
        if (!in(what, 0, 1)) {
            return BAD;
        }
        List<int[]> trees = treesNow();
        int raids = 0;
        int sum = 0;
        for (int got = run(15, trees).got; got > 0; got = run(15, trees).got) {
            raids++;
            sum += got;
        }
        return raids > 40 ? NONE : what == 0 ? raids : sum;
    }

    /** How many apples of each tree a set of raiders would take; empty without an orchard. */
    int[] missingBy(int set) {
        if (garden == null) {
            return new int[0];
        }
        List<int[]> trees = treesNow();
        run(set, trees);
        int[] missing = new int[trees.size()];
        for (int tree = 0; tree < missing.length; tree++) {
            missing[tree] = garden.trees.get(tree)[1] - trees.get(tree)[1];
        }
        return missing;
    }

    private int who(int row, int i, int what) {
        if (garden == null) {
            return STATE;
        }
        if (!in(row, 0, 7) || !in(what, 0, 1)) {
            return BAD;
        }
        if (rows[row] == null) {
            return finding(1);
        }
        if (!holds(row, i, garden.trees.size())) {
            return finding(2);
        }
        status = 0;
        List<Integer> sets = new ArrayList<>();
        for (int set = 1; set < 1 << garden.beings.size(); set++) {
            boolean fits = plansOf(set).size() == Integer.bitCount(set);
            List<int[]> trees = treesNow();
            run(set, trees);
            for (int tree = 0; tree < trees.size(); tree++) {
                fits &= garden.trees.get(tree)[1] - trees.get(tree)[1] == rows[row].items[i + tree];
            }
            if (fits) {
                sets.add(set);
            }
        }
        return what == 0 ? sets.size() : sets.isEmpty() ? NONE : sets.get(0);
    }

    // ---- the book, images, the rest

    private int write(int hour, int slept) {
        if (!in(hour, 0, 23) || !in(slept, 0, 1)) {
            return BAD;
        }
        if (book.size() == 16) {
            return FULL;
        }
        book.add(new int[] {hour, slept});
        return book.size();
    }

    private int tear() {
        int had = book.size();
        book.clear();
        return had;
    }

    private int sleep(int hour, int what) {
        if (!in(hour, 0, 23) || !in(what, 0, 1)) {
            return BAD;
        }
        int slept = (int) book.stream().filter(line -> line[0] == hour && line[1] == 1).count();
        int all = (int) book.stream().filter(line -> line[0] == hour).count();
        if (all == 0) {
            return NONE;
        }
        int common = BigInteger.valueOf(slept).gcd(BigInteger.valueOf(all)).intValue();
        return (what == 0 ? slept : all) / common;
    }

    private int quietest() {
        int best = NONE;
        for (int hour = 23; hour >= 0; hour--) {
            if (sleep(hour, 0) != NONE && (best == NONE
                    || sleep(hour, 0) * sleep(best, 1) >= sleep(best, 0) * sleep(hour, 1))) {
                best = hour;
            }
        }
        return best;
    }

    private int image(int k) {
        if (!in(k, 0, 1)) {
            return BAD;
        }
        if (garden == null) {
            return STATE;
        }
        images[k] = garden.copy();
        return 1;
    }

    private int restore(int k) {
        if (!in(k, 0, 1)) {
            return BAD;
        }
        if (images[k] == null) {
            return STATE;
        }
        garden = images[k].copy();
        acts.clear();
        return 1;
    }

    private int raider(int one, int what) {
        if (!hasBeing(one) || !in(what, 0, 4)) {
            return BAD;
        }
        Being being = garden.beings.get(one);
        Plan plan = being.plan == null ? new Plan(-1, 0, 0) : being.plan;
        return new int[] {being.full, plan.tree(), plan.apples(), plan.how(), being.caught}[what];
    }

    private int tree(int tree, int what) {
        return hasTree(tree) && in(what, 0, 2) ? garden.trees.get(tree)[what] : BAD;
    }

    private int as(int one, int kind) {
        if (!hasBeing(one) || !in(kind, 0, 5)) {
            return BAD;
        }
        Class<?>[] kinds = {Being.class, Picker.class, Quick.class, Stout.class, Watch.class, Sister.class};
        if (!kinds[kind].isInstance(garden.beings.get(one))) {
            return finding(3);
        }
        status = 0;
        return one;
    }

    private int ask(int one, int what) {
        if (!hasBeing(one) || !in(what, 0, 1)) {
            return BAD;
        }
        trace = new ArrayList<>();
        Being being = garden.beings.get(one);
        being.traced = trace;
        return what == 0 ? being.size() : being.mark();
    }

    private int count(int what) {
        Garden g = garden == null ? new Garden() : garden;
        int there = 0;
        for (Row row : rows) {
            there += row == null ? 0 : 1;
        }
        int[] counts = {there, g.trees.size(), g.beings.size(), g.hens.size(), g.raids, g.got, book.size(),
            acts.size(), tape.length()};
        return in(what, 0, 8) ? counts[what] : BAD;
    }
}
