import java.lang.reflect.Method;
import java.util.ArrayList;
import java.util.Arrays;
import java.util.List;

/**
 * Every refusal of the face, in a new country, an ordinary and a full one: each call with good and wrong arguments in all
 * their mixtures answers the first refusal that fits in the order in which its promise tells them, is counted once under
 * its number, and changes nothing else; what is just good is not refused.
 */
public final class RefusalTest extends Edges {
    private static final int NOBODY = -1;
    private static final int OTHER = -2;
    private static final int STATE = -3;
    private static final int BELOW = -4;
    private static final int ROOM = -6;
    private static final int FAR = 60;

    /** What an argument is: whom or what it names, or the least and the greatest number. */
    private static final class Argument {
        final char sort;
        final int least;
        final int greatest;

        Argument(char sort, int least, int greatest) {
            this.sort = sort;
            this.least = least;
            this.greatest = greatest;
        }
    }

    private static final Argument KEEPER = new Argument('k', 0, 0);
    private static final Argument LETTER = new Argument('l', 0, 0);
    private static final Argument TOWN = new Argument('t', 0, 3);
    private static final Argument TOWN_OR_ALL = new Argument('t', -1, 3);
    private static final Argument KIND = new Argument('w', 0, 5);
    private static final Argument ANY = new Argument('a', 0, 0);

    private static Argument what(int greatest) {
        return new Argument('w', 0, greatest);
    }

    private static Argument number(int least, int greatest) {
        return new Argument('n', least, greatest);
    }

    /** A call of the face: what its arguments are, and the refusals in the order in which its promise tells them. */
    private static final class Call {
        final String name;
        final int[] order;
        final Argument[] arguments;
        final Method method;

        Call(String name, int[] order, Argument... arguments) throws NoSuchMethodException {
            this.name = name;
            this.order = order;
            this.arguments = arguments;
            Class<?>[] types = new Class<?>[arguments.length];
            Arrays.fill(types, int.class);
            this.method = OnlyTwoEnemies.class.getMethod(name, types);
        }

        long answer(OnlyTwoEnemies x, int... values) throws Exception {
            Object[] boxed = new Object[values.length];
            for (int i = 0; i < values.length; i++) {
                boxed[i] = values[i];
            }
            return ((Number) method.invoke(x, boxed)).longValue();
        }

        /** How a refusal is told by this call. */
        long told(int refusal) {
            if (method.getReturnType() == long.class) {
                return LONG - refusal;
            }
            return name.equals("used") ? 1000000000 - refusal : refusal;
        }
    }

    /** A country that calls are tried in, and what the test knows of it. */
    private static final class Land {
        final String name;
        final int keepers;
        final int letters;
        final int open;
        final int week;
        final int fed;
        final int row;
        final int past;

        Land(String name, int keepers, int letters, int open, int week, int fed, int row, int past) {
            this.name = name;
            this.keepers = keepers;
            this.letters = letters;
            this.open = open;
            this.week = week;
            this.fed = fed;
            this.row = row;
            this.past = past;
        }

        /** Without anything, and without an image. */
        boolean isNew() {
            return keepers == 0;
        }

        OnlyTwoEnemies make() {
            OnlyTwoEnemies x = new OnlyTwoEnemies();
            if (!isNew()) {
                x.seals(9);
                x.never(9);
                x.back();
                x.weeks(0);
                x.weeks(61);
                fill(x, keepers == 6);
                for (int other = 0; other < row; other++) {
                    x.row(other == 0 || other >= keepers ? 0 : x.hate(0, other));
                }
            }
            return x;
        }

        private static void fill(OnlyTwoEnemies x, boolean full) {
            if (full) {
                tell(x, "k100;k181;k240;k350;k460;k591;l100;l101;l992;l203;l000;l150;s1;");
                until(x, 930);
                x.image();
                until(x, 999);
                x.hates(0, 1, 33);
                x.hates(0, 4, 44);
                x.goes(1, 0);
                x.seals(0);
                x.seals(2);
                x.hates(2, 5, 5);
                fed(x, times(32, "s1;"));
            } else {
                tell(x, "k100;k041;k480;l990;l101;l251;s1;");
                until(x, 40);
                x.image();
                x.weeks(2);
                x.goes(1, 0);
                x.hates(0, 1, 9);
                fed(x, "s0;");
            }
        }
    }

    private static final List<Land> LANDS = new ArrayList<>();
    private static int refusedCalls;
    private static int takenCalls;

    public static void main(String[] args) throws Exception {
        all();
        if (refusedCalls < 10000 || takenCalls < 500) {
            fault("only " + refusedCalls + " refused and " + takenCalls + " taken");
        }
        end("each refusal is as its promise tells");
    }

    static void all() throws Exception {
        LANDS.add(new Land("a new country", 0, 0, 0, 0, 0, 0, 0));
        LANDS.add(new Land("an ordinary country", 3, 3, 2, 42, 3, 3, 4));
        LANDS.add(new Land("a full country", 6, 6, 2 + 4 + 16 + 32, 999, 96, 12, 8));
        lands();
        changes();
        mind();
        looks();
        rest();
        neverRefused();
        sortsOfRefusals();
        usedAndLongs();
    }

    /** The countries are what this test takes them for. */
    private static void lands() {
        for (Land land : LANDS) {
            OnlyTwoEnemies x = land.make();
            due(x.count(0), land.keepers);
            due(x.count(1), land.letters);
            due(x.count(2), land.week);
            due(x.count(3), land.open);
            due(x.count(5), land.fed);
            due(x.count(6), land.row);
            due(x.count(7), land.past);
        }
    }

    private static int[] order(int... refusals) {
        return refusals;
    }

    private static void changes() throws Exception {
        refuses(2, "-4; -6 (255; 96, too).", new Call("feed", order(BELOW, ROOM), number(0, 255)));
        refuses(4, "-1; -2.", new Call("keeperOf", order(NOBODY, OTHER), KEEPER, what(5)));
        refuses(5, "-1; -2.", new Call("letterOf", order(NOBODY, OTHER), LETTER, what(3)));
        refuses(6, "-1 either (one twice).", new Call("hate", order(NOBODY), KEEPER, KEEPER));
        refuses(7, "-2; -4; -6 (9; 6 there are); -1 the TOWN.",
            new Call("keeper", order(OTHER, BELOW, ROOM, NOBODY), KIND, number(0, 9), TOWN));
        refuses(8, "-1; -4; -6 (99; 6 there are).", new Call("letter", order(NOBODY, BELOW, ROOM), TOWN, number(0, 99)));
        refuses(9, "-1 either (one twice); -4; -6 99.",
            new Call("hates", order(NOBODY, BELOW, ROOM), KEEPER, KEEPER, number(0, 99)));
        refuses(10, "-1 either.", new Call("goes", order(NOBODY), KEEPER, TOWN));
        refuses(11, "-1.", new Call("seals", order(NOBODY), LETTER));
        refuses(12, "-4 below 1; -6 (60; WEEK above 999).", new Call("weeks", order(BELOW, ROOM), number(1, FAR)));
        refuses(13, "-3 none.", new Call("back", order(STATE)));
        refuses(42, "-4; -6 (99; 12, too).", new Call("row", order(BELOW, ROOM), number(0, 99)));
        refuses(43, "-1 (it stays).", new Call("judge", order(NOBODY), KEEPER));
        refuses(47, "-3 there is none.", new Call("restore", order(STATE)));
    }

    private static void mind() throws Exception {
        refuses(14, "-1 either (one twice); -4; -6 60.",
            new Call("behind", order(NOBODY, BELOW, ROOM), KEEPER, KEEPER, number(0, FAR)));
        refuses(15, "-4; -6 60; -2.", new Call("then", order(BELOW, ROOM, OTHER), number(0, FAR), what(1)));
        refuses(16, "-1; -2.", new Call("when", order(NOBODY, OTHER), LETTER, what(1)));
        refuses(17, "-1 either (one twice); -4; -6 99.",
            new Call("lasts", order(NOBODY, BELOW, ROOM), KEEPER, KEEPER, number(0, 99)));
        refuses(18, "-2.", new Call("never", order(OTHER), what(1)));
        refuses(19, "-1 any (one twice); -3 it is OPEN.", new Call("insult", order(NOBODY, STATE), KEEPER, KEEPER, LETTER));
        refuses(20, "-4; -6 60.", new Call("send", order(BELOW, ROOM), number(0, FAR)));
        refuses(21, "-1 any (one twice); -4; -6 60; -2.",
            new Call("places", order(NOBODY, BELOW, ROOM, OTHER), KEEPER, KEEPER, KEEPER, number(0, FAR), what(1)));
        refuses(22, "-4; -6 60; -2.", new Call("fewest", order(BELOW, ROOM, OTHER), number(0, FAR), what(1)));
        refuses(37, "-1 either (one twice); -4; -6 60.",
            new Call("used", order(NOBODY, BELOW, ROOM), KEEPER, KEEPER, number(0, FAR)));
        refuses(38, "-4; -6 60.", new Call("swap", order(BELOW, ROOM), number(0, FAR)));
        refuses(39, "-4; -6 60.", new Call("apart", order(BELOW, ROOM), number(0, FAR)));
    }

    private static void looks() throws Exception {
        refuses(23, "-1; -4; -6 60.", new Call("pay", order(NOBODY, BELOW, ROOM), TOWN_OR_ALL, number(0, FAR)));
        refuses(24, "-1.", new Call("deepest", order(NOBODY), TOWN));
        refuses(25, "-4; -6 99.", new Call("pairs", order(BELOW, ROOM), number(0, 99)));
        refuses(26, "-2.", new Call("worst", order(OTHER), what(2)));
        refuses(32, "-2.", new Call("fullest", order(OTHER), what(1)));
        refuses(36, "-2.", new Call("mean", order(OTHER), what(1)));
        refuses(40, "-1.", new Call("enemy", order(NOBODY), KEEPER));
        refuses(41, "-4; -6 99.", new Call("can", order(BELOW, ROOM), number(0, 99)));
    }

    private static void rest() throws Exception {
        refuses(27, "-1 either (one twice); -2.", new Call("whoHates", order(NOBODY, OTHER), KEEPER, KEEPER, what(2)));
        refuses(28, "-1 either (one twice); -2.", new Call("whatKind", order(NOBODY, OTHER), KEEPER, KEEPER, what(1)));
        refuses(29, "-4 (n, k below 0, t below 2); -6 (8 either; 20); -2.",
            new Call("jug", order(BELOW, ROOM, OTHER), number(0, 8), number(0, 8), number(2, 20), what(1)));
        refuses(30, "-1 either (one twice).", new Call("two", order(NOBODY), KEEPER, KEEPER));
        refuses(31, "-1 any (one twice); -4 (n below 0, t below 2); -6 (7; 20); -2.",
            new Call("meetings", order(NOBODY, BELOW, ROOM, OTHER), KEEPER, KEEPER, LETTER, number(0, 7), number(2, 20), what(1)));
        refuses(45, "-4; -6 20; -2.", new Call("lots", order(BELOW, ROOM, OTHER), number(1, 20), ANY, what(1)));
    }

    private static void neverRefused() throws Exception {
        by("REFUSALS (the call answers the number,");
        for (String name : new String[] {"land", "thickest", "mildest", "bare", "clear", "image"}) {
            tryAll(new Call(name, order()));
        }
        tryAll(new Call("count", order(), ANY));
    }

    private static void refuses(int promise, String words, Call call) throws Exception {
        by(promise, words);
        tryAll(call);
    }

    /** All mixtures of arguments in all countries, and each argument alone at its farthest. */
    private static void tryAll(Call call) throws Exception {
        for (Land land : LANDS) {
            int[][] choices = new int[call.arguments.length][];
            for (int i = 0; i < choices.length; i++) {
                choices[i] = values(call.arguments[i], land);
            }
            List<Long> was = allOf(land.make());
            mixtures(call, land, choices, new int[choices.length], 0, was);
            for (int i = 0; i < choices.length; i++) {
                int[] values = new int[choices.length];
                for (int j = 0; j < values.length; j++) {
                    values[j] = choices[j][call.arguments[j].sort == 'k' ? j : j % 2];
                }
                for (int far : new int[] {MIN, MAX, MIN + 1, MAX - 1, -2, 97, 1000, 65536}) {
                    values[i] = far;
                    tryOne(call, land, values, was);
                }
            }
        }
    }

    /** Just good and just wrong values; three good ones, where three KEEPERS have to differ. */
    private static int[] values(Argument a, Land land) {
        switch (a.sort) {
            case 'k': return new int[] {0, 1, Math.max(2, land.keepers - 1), land.keepers, -1};
            case 'l': return new int[] {0, 1, Math.max(2, land.letters - 1), land.letters, -1};
            case 'a': return new int[] {0, 7, -1};
            default: return new int[] {a.least, a.greatest, a.least - 1, a.greatest + 1};
        }
    }

    private static void mixtures(Call call, Land land, int[][] choices, int[] values, int from, List<Long> was)
        throws Exception {
        if (from == values.length) {
            tryOne(call, land, values, was);
            return;
        }
        for (int v : choices[from]) {
            values[from] = v;
            mixtures(call, land, choices, values, from + 1, was);
        }
    }

    private static void tryOne(Call call, Land land, int[] values, List<Long> was) throws Exception {
        OnlyTwoEnemies x = land.make();
        int due = refusal(call, land, values);
        int[] counts = new int[6];
        for (int i = 0; i < 6; i++) {
            counts[i] = x.count(11 + i) + (due == -1 - i ? 1 : 0);
        }
        long got = call.answer(x, values);
        String said = land.name + ": " + call.name + Arrays.toString(values);
        if (due != 0 && got != call.told(due)) {
            fault(said + " answered " + got + ", due is " + call.told(due));
        }
        for (int i = 0; i < 6; i++) {
            if (x.count(11 + i) != counts[i]) {
                fault(said + " left count(" + (11 + i) + ") " + x.count(11 + i) + ", due is " + counts[i]);
            }
        }
        if (due == 0) {
            takenCalls++;
            return;
        }
        refusedCalls++;
        if (!allOf(x).equals(was)) {
            fault(said + " changed something");
        }
    }

    private static int refusal(Call call, Land land, int[] values) {
        boolean[] fits = new boolean[7];
        for (int i = 0; i < values.length; i++) {
            fits[-wrong(call.arguments[i], values[i], land)] = true;
            for (int j = 0; j < i; j++) {
                boolean keepers = call.arguments[i].sort == 'k' && call.arguments[j].sort == 'k';
                fits[-NOBODY] |= keepers && values[i] == values[j];
            }
        }
        fits[-ROOM] |= call.name.equals("feed") && land.fed == 96 || call.name.equals("row") && land.row == 12;
        fits[-ROOM] |= call.name.equals("keeper") && land.keepers == 6 || call.name.equals("letter") && land.letters == 6;
        fits[-ROOM] |= call.name.equals("weeks") && (long) land.week + values[0] > 999;
        fits[-STATE] |= call.name.equals("back") && land.past == 0 || call.name.equals("restore") && land.isNew();
        fits[-STATE] |= call.name.equals("insult") && values[2] >= 0 && values[2] < 6 && (land.open >> values[2] & 1) == 1;
        for (int refusal : call.order) {
            if (fits[-refusal]) {
                return refusal;
            }
        }
        return 0;
    }

    private static int wrong(Argument a, int v, Land land) {
        switch (a.sort) {
            case 'k': return v < 0 || v >= land.keepers ? NOBODY : 0;
            case 'l': return v < 0 || v >= land.letters ? NOBODY : 0;
            case 't': return v < a.least || v > a.greatest ? NOBODY : 0;
            case 'w': return v < a.least || v > a.greatest ? OTHER : 0;
            case 'n': return v < a.least ? BELOW : v > a.greatest ? ROOM : 0;
            default: return 0;
        }
    }

    /** All that can be seen of an object but its refusals: the country, the letters, the ROW, what can be taken back, the image. */
    private static List<Long> allOf(OnlyTwoEnemies x) {
        List<Long> all = country(x);
        for (int what = 5; what <= 7; what++) {
            all.add((long) x.count(what));
        }
        if (x.count(6) > 0) {
            all.add((long) x.judge(0));
        }
        for (int i = 0; i < 9; i++) {
            all.add((long) x.back());
            all.add((long) x.count(2));
            all.add((long) x.count(3));
            all.add((long) x.count(4));
            all.add((long) x.keeperOf(1, 2));
        }
        all.add((long) x.land());
        all.add((long) x.count(3));
        all.add((long) x.restore());
        all.addAll(country(x));
        return all;
    }

    private static void sortsOfRefusals() {
        by("REFUSALS (the call answers the number, the first that fits in the order in which it tells them; "
            + "nothing changes but how many there were):");
        OnlyTwoEnemies x = told("k000;k000;l000;s0;");
        due(x.keeper(6, -1, 4), -2);
        due(x.keeper(0, -1, 4), -4);
        due(x.keeper(0, 10, 4), -6);
        due(x.keeper(0, 9, 4), -1);
        by("-1 NOBODY: no such KEEPER, LETTER, TOWN, one twice.");
        due(x.keeperOf(2, 0), -1);
        due(x.letterOf(1, 0), -1);
        due(x.deepest(4), -1);
        due(x.hate(1, 1), -1);
        by("-2 OTHER: what, KIND.");
        due(x.keeperOf(0, 6), -2);
        due(x.keeper(6, 0, 0), -2);
        by("-3 STATE: it is not as told.");
        due(x.back(), -3);
        due(x.restore(), -3);
        due(x.insult(0, 1, 0), -3);
        by("-4 BELOW: a number below the least.");
        due(x.weeks(0), -4);
        due(x.row(-1), -4);
        by("-6 ROOM: a number above the greatest, no room.");
        due(x.weeks(61), -6);
        due(x.row(100), -6);
        due(told("k000;k000;k000;k000;k000;k000;").keeper(0, 0, 0), -6);
        int[] counts = {5, 3, 3, 3, 0, 3};
        for (int i = 0; i < 6; i++) {
            due(x.count(11 + i), counts[i]);
        }
    }

    private static void usedAndLongs() {
        by("Of used() 1000000000 less them (-1 as 1000000001),");
        OnlyTwoEnemies x = told("k000;k000;l000;");
        due(x.used(0, 0, 0), 1000000001);
        due(x.used(0, 1, -1), 1000000004);
        due(x.used(0, 1, 61), 1000000006);
        by("of longs 4000000000000000000 less them (-1 as 4000000000000000001).");
        due(x.meetings(0, 0, 0, 0, 2, 0), 4000000000000000001L);
        due(x.meetings(0, 1, 0, -1, 2, 0), 4000000000000000004L);
        due(x.meetings(0, 1, 0, 8, 2, 0), 4000000000000000006L);
        due(x.meetings(0, 1, 0, 0, 2, 2), 4000000000000000002L);
        due(x.jug(0, 0, 1, 0), 4000000000000000004L);
        due(x.jug(0, 0, 21, 0), 4000000000000000006L);
        due(x.jug(0, 0, 2, -1), 4000000000000000002L);
        due(x.mean(2), 4000000000000000002L);
        int[] counts = {2, 3, 0, 3, 0, 3};
        for (int i = 0; i < 6; i++) {
            due(x.count(11 + i), counts[i]);
        }
    }
}
