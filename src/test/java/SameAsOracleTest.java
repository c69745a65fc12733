import java.lang.reflect.InvocationTargetException;
import java.lang.reflect.Method;
import java.lang.reflect.Modifier;
import java.util.ArrayList;
import java.util.Collections;
import java.util.Comparator;
import java.util.HashMap;
import java.util.List;
import java.util.Map;
import java.util.Random;

/**
 * Long runs of calls, right and wrong ones, answered by the class and by the Oracle alike.
 * Arguments, if any: the first run and the last.
 */
public final class SameAsOracleTest {
    private static final int RUNS = 40;
    private static final int CALLS = 512;
    private static final int[] WILD = {Integer.MIN_VALUE, Integer.MAX_VALUE, -2, -1, 6, 7, 31, 32, 61, 97, 100, 256};

    /** The greatest argument of each parameter that an ordinary call has. */
    private static final Map<String, int[]> GREATEST = new HashMap<>();

    static {
        GREATEST.put("feed", new int[] {130});
        GREATEST.put("land", new int[] {});
        GREATEST.put("keeperOf", new int[] {5, 5});
        GREATEST.put("letterOf", new int[] {5, 3});
        GREATEST.put("hate", new int[] {5, 5});
        GREATEST.put("keeper", new int[] {5, 9, 3});
        GREATEST.put("letter", new int[] {3, 40});
        GREATEST.put("hates", new int[] {5, 5, 50});
        GREATEST.put("goes", new int[] {5, 3});
        GREATEST.put("seals", new int[] {5});
        GREATEST.put("weeks", new int[] {3});
        GREATEST.put("back", new int[] {});
        GREATEST.put("behind", new int[] {5, 5, 60});
        GREATEST.put("then", new int[] {60, 1});
        GREATEST.put("when", new int[] {5, 1});
        GREATEST.put("lasts", new int[] {5, 5, 99});
        GREATEST.put("never", new int[] {1});
        GREATEST.put("insult", new int[] {5, 5, 5});
        GREATEST.put("send", new int[] {3});
        GREATEST.put("places", new int[] {5, 5, 5, 3, 1});
        GREATEST.put("fewest", new int[] {3, 1});
        GREATEST.put("pay", new int[] {3, 60});
        GREATEST.put("deepest", new int[] {3});
        GREATEST.put("pairs", new int[] {40});
        GREATEST.put("worst", new int[] {2});
        GREATEST.put("whoHates", new int[] {5, 5, 2});
        GREATEST.put("whatKind", new int[] {5, 5, 1});
        GREATEST.put("jug", new int[] {8, 8, 20, 1});
        GREATEST.put("two", new int[] {5, 5});
        GREATEST.put("meetings", new int[] {5, 5, 5, 4, 20, 1});
        GREATEST.put("fullest", new int[] {1});
        GREATEST.put("thickest", new int[] {});
        GREATEST.put("mildest", new int[] {});
        GREATEST.put("bare", new int[] {});
        GREATEST.put("mean", new int[] {1});
        GREATEST.put("used", new int[] {5, 5, 60});
        GREATEST.put("swap", new int[] {3});
        GREATEST.put("apart", new int[] {60});
        GREATEST.put("enemy", new int[] {5});
        GREATEST.put("can", new int[] {99});
        GREATEST.put("row", new int[] {40});
        GREATEST.put("judge", new int[] {5});
        GREATEST.put("clear", new int[] {});
        GREATEST.put("lots", new int[] {5, 1000000, 1});
        GREATEST.put("image", new int[] {});
        GREATEST.put("restore", new int[] {});
        GREATEST.put("count", new int[] {17});
    }

    private final Random random;
    private final int run;
    private final OnlyTwoEnemies subject = new OnlyTwoEnemies();
    private final Oracle oracle = new Oracle();
    private final List<String> calls = new ArrayList<>();
    private int wrong;

    private SameAsOracleTest(int run) {
        this.run = run;
        this.random = new Random(run);
    }

    public static void main(String[] args) throws Exception {
        List<Method> face = new ArrayList<>();
        for (Method m : OnlyTwoEnemies.class.getDeclaredMethods()) {
            if (Modifier.isPublic(m.getModifiers())) {
                face.add(m);
            }
        }
        face.sort(Comparator.comparing(Method::getName));
        int wrong = face.size() == GREATEST.size() ? 0 : 1;
        int first = args.length > 0 ? Integer.parseInt(args[0]) : 1;
        int last = args.length > 1 ? Integer.parseInt(args[1]) : first + RUNS - 1;
        for (int run = first; run <= last; run++) {
            wrong += new SameAsOracleTest(run).play(face);
        }
        System.out.println(wrong == 0 ? "all answers are as the Oracle's" : wrong + " runs are not as the Oracle's");
        if (wrong != 0) {
            System.exit(1);
        }
    }

    private int play(List<Method> face) throws Exception {
        if (run % 5 == 0) {
            quarrel();
        } else if (run % 3 != 0) {
            settle();
        }
        while (calls.size() < CALLS - 90 && wrong == 0) {
            step(face);
        }
        lookAtAll();
        return wrong;
    }

    /** A country with something in it, so that few calls are refused. */
    private void settle() throws Exception {
        int keepers = 2 + random.nextInt(5);
        int towns = 1 + random.nextInt(4);
        for (int i = 0; i < keepers; i++) {
            call("keeper", random.nextInt(6), random.nextInt(10), random.nextInt(towns));
        }
        for (int i = random.nextInt(7); i > 0; i--) {
            call("letter", random.nextInt(towns), random.nextInt(40));
        }
        for (int i = random.nextInt(12); i > 0; i--) {
            call("hates", random.nextInt(keepers), random.nextInt(keepers), random.nextInt(50));
        }
    }

    /** A rare country, in which some of all open more letters than all, its keepers in any order. */
    private void quarrel() throws Exception {
        int[][] hates = {{0, 14, 7, 12, 13}, {14, 0, 0, 7, 1}, {7, 0, 0, 15, 0}, {12, 7, 15, 0, 8}, {13, 1, 0, 8, 0}};
        List<Integer> order = new ArrayList<>(List.of(0, 1, 2, 3, 4));
        Collections.shuffle(order, random);
        for (int i = 0; i < order.size(); i++) {
            call("keeper", 1, random.nextInt(10), 0);
            for (int j = 0; j < i; j++) {
                call("hates", i, j, hates[order.get(i)][order.get(j)]);
            }
        }
        for (int depth : new int[] {13, 9, 13, 5, 10, 11}) {
            call("letter", 0, depth);
        }
        call("fewest", random.nextInt(60) + 1, 0);
        call("fewest", random.nextInt(60) + 1, 1);
    }

    private void step(List<Method> face) throws Exception {
        int dice = random.nextInt(100);
        if (dice < 10) {
            tellStatements();
        } else if (dice < 14) {
            tellTrueRow();
        } else if (dice < 17) {
            judgeTrueRow();
        } else if (dice < 30) {
            shake();
        } else {
            Method m = face.get(random.nextInt(face.size()));
            int[] greatest = GREATEST.get(m.getName());
            Object[] args = new Object[greatest.length];
            for (int i = 0; i < args.length; i++) {
                args[i] = argument(greatest[i]);
            }
            call(m.getName(), args);
        }
    }

    private int argument(int greatest) {
        if (random.nextInt(30) == 0) {
            return WILD[random.nextInt(WILD.length)];
        }
        return random.nextInt(40) == 0 ? random.nextInt() : random.nextInt(greatest + 1);
    }

    /** Seals, hatreds and towns, so that there is something to open again. */
    private void shake() throws Exception {
        switch (random.nextInt(3)) {
            case 0: call("seals", random.nextInt(6)); break;
            case 1: call("hates", random.nextInt(6), random.nextInt(6), random.nextInt(60)); break;
            default: call("goes", random.nextInt(6), random.nextInt(2)); break;
        }
    }

    private void tellStatements() throws Exception {
        StringBuilder text = new StringBuilder();
        for (int i = random.nextInt(4); i >= 0; i--) {
            text.append(statement());
        }
        if (random.nextInt(4) == 0) {
            text.setCharAt(random.nextInt(text.length()), (char) (random.nextInt(8) == 0 ? 200 : 48 + random.nextInt(72)));
        }
        if (random.nextInt(8) == 0) {
            text.setLength(text.length() - 1);
        }
        for (char c : text.toString().toCharArray()) {
            call("feed", (int) c);
        }
        if (random.nextInt(6) != 0) {
            call("land");
        }
    }

    private String statement() {
        int keeper = random.nextInt(5);
        switch (random.nextInt(6)) {
            case 0: return "k" + random.nextInt(7) % 6 + random.nextInt(10) + random.nextInt(25) % 4 + ";";
            case 1: return "h" + keeper + random.nextInt(6) + (10 + random.nextInt(50)) + ";";
            case 2: return "l" + (10 + random.nextInt(30)) + random.nextInt(4) + ";";
            case 3: return "g" + keeper + random.nextInt(4) + ";";
            case 4: return "s" + random.nextInt(6) + ";";
            default: return "w" + (random.nextInt(30) == 0 ? "60" : "0" + random.nextInt(5)) + ";";
        }
    }

    private void tellTrueRow() throws Exception {
        int one = random.nextInt(6);
        int other = random.nextInt(6);
        boolean letters = random.nextBoolean();
        call("clear");
        int due = random.nextInt(13);
        for (int n = 0; n < due; n++) {
            int told = letters ? Integer.bitCount(oracle.then(n, 0)) : truth(one, other, n);
            call("row", told);
        }
        for (int what = 0; what < 3; what++) {
            call(letters ? "whoHates" : "whatKind", one, other, what);
        }
    }

    private int truth(int one, int other, int n) {
        int keepers = oracle.count(0);
        return one < keepers && other < keepers && one != other ? oracle.behind(one, other, n) : random.nextInt(100);
    }

    private void judgeTrueRow() throws Exception {
        int one = random.nextInt(6);
        int due = random.nextInt(8);
        call("clear");
        for (int i = 0; i < due; i++) {
            call("row", i == one ? 0 : truth(one, i, 0));
        }
        if (random.nextInt(3) == 0) {
            call("row", random.nextInt(100));
        }
        call("judge", one);
    }

    private void lookAtAll() throws Exception {
        for (int what = -1; what <= 17; what++) {
            call("count", what);
        }
        for (int i = 0; i < 6; i++) {
            call("keeperOf", i, i);
            call("letterOf", i, i % 4);
        }
        for (int i = 0; i < 9; i++) {
            call("back");
            call("count", 4);
        }
    }

    private void call(String name, Object... args) throws Exception {
        if (calls.size() >= CALLS || wrong != 0) {
            return;
        }
        StringBuilder told = new StringBuilder(name).append('(');
        Class<?>[] types = new Class<?>[args.length];
        for (int i = 0; i < args.length; i++) {
            types[i] = int.class;
            told.append(i == 0 ? "" : ", ").append(args[i]);
        }
        long due = due(name, types, args);
        long got = ((Number) OnlyTwoEnemies.class.getMethod(name, types).invoke(subject, args)).longValue();
        calls.add(told.append(") = ").append(due).toString());
        if (got != due) {
            wrong++;
            System.out.println("run " + run + ": answered " + got + " where due is " + calls.get(calls.size() - 1));
            System.out.println("  behind " + calls);
        }
    }

    private long due(String name, Class<?>[] types, Object[] args) throws Exception {
        Method m = Oracle.class.getMethod(name, types);
        try {
            return ((Number) m.invoke(oracle, args)).longValue();
        } catch (InvocationTargetException e) {
            long number = oracle.refused((RuntimeException) e.getCause());
            if (name.equals("used")) {
                return 1000000000 - number;
            }
            return m.getReturnType() == long.class ? 4000000000000000000L - number : number;
        }
    }
}
