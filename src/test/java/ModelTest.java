import java.lang.reflect.Method;
import java.lang.reflect.Modifier;
import java.util.ArrayList;
import java.util.Arrays;
import java.util.List;
import java.util.Map;
import java.util.Random;
import java.util.TreeMap;

/**
 * Runs of calls, made by a seed, on the class and on the model of the document: all answers are the same. With two
 * arguments: how many runs, and from which seed on; then it tells how often each call was answered how, too.
 */
public final class ModelTest {
    private static final int CALLS = 512;
    private static final int[] ODD = {Integer.MIN_VALUE, Integer.MAX_VALUE, -2, -1, 0, 1, 2, 40, 41, 120, 255, 256};
    private static final TreeMap<String, Method> METHODS = methods();
    private static final TreeMap<String, Integer> ANSWERS = new TreeMap<>();

    private final Random random;
    private final OrchardWall wall = new OrchardWall();
    private final Model model = new Model();
    private final List<String> said = new ArrayList<>();
    private int calls = 0;

    private ModelTest(long seed) {
        random = new Random(seed);
    }

    public static void main(String[] args) throws Exception {
        long runs = args.length > 0 ? Long.parseLong(args[0]) : 600;
        long first = args.length > 1 ? Long.parseLong(args[1]) : 0;
        for (long seed = first; seed < first + runs; seed++) {
            ModelTest run = new ModelTest(seed);
            if (!run.isAsTheModel()) {
                run.said.forEach(System.out::println);
                System.out.println("seed " + seed);
                System.exit(1);
            }
        }
        if (args.length > 1) {
            for (Map.Entry<String, Integer> entry : ANSWERS.entrySet()) {
                System.out.println(entry.getKey() + ": " + entry.getValue());
            }
        }
        System.out.println(runs + " runs are as the model's");
    }

    private static TreeMap<String, Method> methods() {
        TreeMap<String, Method> methods = new TreeMap<>();
        for (Method method : OrchardWall.class.getDeclaredMethods()) {
            if (Modifier.isPublic(method.getModifiers())) {
                methods.put(method.getName(), method);
            }
        }
        return methods;
    }

    private boolean isAsTheModel() throws Exception {
        boolean same = random.nextInt(10) == 0 || tellsAll();
        List<String> names = new ArrayList<>(METHODS.keySet());
        while (same && calls < CALLS) {
            int turn = random.nextInt(160);
            if (turn == 0) {
                same = tellsAll();
            } else if (turn < 6) {
                same = dividesShares();
            } else if (turn < 12) {
                same = asksWho();
            } else if (turn < 18) {
                same = asksDays();
            } else if (turn < 26) {
                same = asksOften("plan", 1 + random.nextInt(4));
            } else {
                same = callsOne(names.get(random.nextInt(names.size())));
            }
        }
        return same;
    }

    private boolean same(String name, int... args) throws Exception {
        if (calls >= CALLS) {
            return true;
        }
        calls++;
        Object[] boxed = Arrays.stream(args).boxed().toArray();
        long got = ((Number) METHODS.get(name).invoke(wall, boxed)).longValue();
        long want = model.call(name, args);
        said.add(name + Arrays.toString(args) + " answered " + got + ", the model " + want);
        ANSWERS.merge(name + " " + sortOf(got), 1, Integer::sum);
        return got == want;
    }

    private static String sortOf(long answer) {
        if (answer <= -1000100) {
            return "FAULT";
        }
        if (answer <= -1000010) {
            return "FINDING";
        }
        if (answer <= -1000000) {
            return new String[] {"NONE", "BAD", "STATE", "FULL"}[(int) (-1000000 - answer)];
        }
        return answer == 0 ? "0" : answer < 0 ? "below" : "above";
    }

    private boolean tellsAll() throws Exception {
        boolean same = true;
        for (char letter : text().toCharArray()) {
            same = same && same("feed", letter);
        }
        return same && same("orchard") && same("fault") && asksOften("plan", 4);
    }

    private int some(int n) {
        return random.nextInt(n);
    }

    private String text() {
        StringBuilder text = new StringBuilder();
        boolean loud = random.nextBoolean();
        List<Integer> cells = new ArrayList<>();
        while (cells.size() < 8) {
            int cell = some(24);
            if (!cells.contains(cell) || some(60) == 0) {
                cells.add(cell);
            }
        }
        text.append('o').append(cells.get(0)).append(',').append(cells.get(1)).append(',');
        text.append(1 + some(loud ? 12 : 60)).append(',').append(some(10)).append(',').append(some(loud ? 15 : 41));
        text.append(';');
        for (int hens = some(4); hens > 0; hens--) {
            text.append('h').append(some(24)).append(',').append(1 + some(9)).append(';');
        }
        for (int trees = Math.max(some(7), some(4)); trees > 0; trees--) {
            text.append('t').append(cells.get(1 + trees)).append(',').append(some(31)).append(',');
            text.append(some(10)).append(';');
        }
        for (int raiders = Math.max(some(5), some(5)); raiders > 0; raiders--) {
            text.append("pqswkpqs".charAt(some(8))).append(1 + some(20)).append(';');
        }
        if (some(12) == 0) {
            String wrong = "opqswkht,;0123456789 Z";
            text.setCharAt(some(text.length()), wrong.charAt(some(wrong.length())));
        }
        if (some(25) == 0) {
            text.setLength(some(text.length()));
        }
        return text.toString();
    }

    private boolean asksOften(String name, int times) throws Exception {
        boolean same = true;
        for (int i = 0; i < times; i++) {
            same = same && callsOne(name);
        }
        return same;
    }

    private boolean fillsRow(int row, int lane, int[] items) throws Exception {
        boolean same = same("row", row, lane, items.length);
        for (int i = 0; i < items.length; i++) {
            same = same && same("set", row, i, items[i]);
        }
        return same;
    }

    /** What a raid gets, divided anyhow. */
    private boolean dividesShares() throws Exception {
        int raiders = (int) model.call("count", 2);
        int[] items = new int[raiders];
        int left = Math.max(0, (int) model.call("ahead", 0));
        for (int one = 0; one < raiders; one++) {
            items[one] = one == raiders - 1 ? left : some(left + 1);
            left -= items[one];
        }
        int row = some(8);
        return fillsRow(row, 2, items) && same("shares", row, 0);
    }

    private boolean asksWho() throws Exception {
        int row = some(8);
        return fillsRow(row, some(3), model.missingBy(1 + some(15))) && same("who", row, 0, 0) && same("who", row, 0, 1);
    }

    private boolean asksDays() throws Exception {
        int[] items = new int[6];
        int most = 1 + some(21);
        for (int day = 0; day < 6; day++) {
            items[day] = some(most);
        }
        int row = some(8);
        int lost = 1 + some(20);
        return fillsRow(row, some(3), items) && same("days", row, 0, lost)
                && same("daysValue", row, 0, lost, -1, 0) && same("daysValue", row, 0, lost, some(6), some(2));
    }

    private boolean callsOne(String name) throws Exception {
        if (name.equals("orchard") || name.equals("restore") && some(4) > 0) {
            return same("status");
        }
        int[] args = new int[METHODS.get(name).getParameterCount()];
        for (int i = 0; i < args.length; i++) {
            args[i] = some(40) == 0 ? ODD[some(ODD.length)] : usual(name, i);
        }
        return same(name, args);
    }

    /** One of n, or now and then the one behind them. */
    private int oneOf(int n) {
        return n == 0 || some(12) == 0 ? n : some(n);
    }

    private int anyRaider() {
        return oneOf((int) model.call("count", 2));
    }

    private int anyTree() {
        return oneOf((int) model.call("count", 1));
    }

    private int usual(String name, int i) {
        switch (name) {
            case "row": return new int[] {some(9), some(4), some(14) - 1}[i];
            case "set": return new int[] {some(8), some(10), some(3) == 0 ? random.nextInt() : some(20)}[i];
            case "feed": return "o;,1".charAt(some(4));
            case "far": return some(24);
            case "write":
            case "sleep": return i == 0 ? some(5) * 5 : some(2);
            case "copy": return i == 4 ? some(4) : some(7);
            case "plan": return new int[] {anyRaider(), anyTree() - (some(12) == 0 ? 1 : 0), 1 + some(20), some(2)}[i];
            case "grow": return i == 0 ? anyTree() : 1 + some(30);
            case "days":
            case "daysValue": return new int[] {some(8), some(3), 1 + some(20), some(7) - 1, some(2)}[i];
            case "shares":
            case "who": return i == 0 ? some(8) : some(2);
            case "tree": return i == 0 ? anyTree() : some(3);
            case "raider": return i == 0 ? anyRaider() : some(5);
            case "safe": return new int[] {anyRaider(), anyTree(), some(2)}[i];
            case "ahead": return some(4);
            case "bare":
            case "image":
            case "restore": return some(2);
            case "count": return some(9);
            default: return i == 0 ? anyRaider() : some(name.equals("as") ? 6 : name.equals("bestAlone") ? 4 : 2);
        }
    }
}
