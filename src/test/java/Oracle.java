import java.math.BigInteger;
import java.util.ArrayDeque;
import java.util.ArrayList;
import java.util.Deque;
import java.util.HashMap;
import java.util.List;
import java.util.Map;
import java.util.function.Consumer;

/** The document told a second time, with all of the Java library, to compare the class with. */
public final class Oracle {
    private static final class Refusal extends RuntimeException {
        final int number;

        Refusal(int number) {
            super(null, null, false, false);
            this.number = number;
        }
    }

    private static final class Man {
        int kind;
        int figure;
        int town;

        Man(int kind, int figure, int town) {
            this.kind = kind;
            this.figure = figure;
            this.town = town;
        }

        int fades() {
            return new int[] {1, 0, 2, figure / 2 + 1, 0, 3}[kind];
        }

        int stirs() {
            return new int[] {0, 1, 0, 0, 1 + figure / 4, 0}[kind];
        }

        int pay() {
            return new int[] {figure + 1, 2 * figure + 2, 5, 0, 2 * figure + 1, 2}[kind];
        }
    }

    private static final class Seal {
        int depth;
        int town;
        boolean open;
        int by = -9;

        Seal(int depth, int town, boolean open) {
            this.depth = depth;
            this.town = town;
            this.open = open;
        }
    }

    /** Somebody in town 77 is in no town. */
    private static final class World {
        final List<Man> men = new ArrayList<>();
        final List<Seal> seals = new ArrayList<>();
        final Map<Integer, Integer> hate = new HashMap<>();
        int week;

        World copy() {
            World w = new World();
            for (Man m : men) {
                w.men.add(new Man(m.kind, m.figure, m.town));
            }
            for (Seal s : seals) {
                w.seals.add(new Seal(s.depth, s.town, s.open));
            }
            w.hate.putAll(hate);
            w.week = week;
            return w;
        }

        List<Integer> twos() {
            List<Integer> all = new ArrayList<>();
            for (int i = 0; i < men.size(); i++) {
                for (int j = i + 1; j < men.size(); j++) {
                    all.add(10 * i + j);
                }
            }
            return all;
        }

        int key(int a, int b) {
            return a < b ? 10 * a + b : 10 * b + a;
        }

        int get(int a, int b) {
            return hate.get(key(a, b));
        }

        void set(int a, int b, int v) {
            hate.put(key(a, b), v < 0 ? 0 : v > 99 ? 99 : v);
        }

        int town(int man) {
            return men.get(man).town;
        }

        int opens(Seal s) {
            int who = -9;
            for (int two : twos()) {
                boolean both = town(two / 10) == s.town && town(two % 10) == s.town;
                if (both && hate.get(two) >= s.depth && (who < 0 || hate.get(two) < hate.get(who))) {
                    who = two;
                }
            }
            return who;
        }

        int aWeek() {
            week++;
            List<Integer> twos = twos();
            for (int two : twos) {
                Man a = men.get(two / 10);
                Man b = men.get(two % 10);
                if (a.town == 77 || b.town == 77) {
                    continue;
                }
                int v = hate.get(two);
                hate.put(two, a.town == b.town ? Math.max(0, v - a.fades() - b.fades())
                    : Math.min(99, v + a.stirs() + b.stirs()));
            }
            int many = 0;
            for (Seal s : seals) {
                if (!s.open && opens(s) >= 0) {
                    s.by = opens(s);
                    s.open = true;
                    many++;
                    hate.put(s.by, Math.max(0, hate.get(s.by) - 5));
                }
            }
            return many;
        }

        World on(int n) {
            World w = copy();
            for (int i = 0; i < n; i++) {
                w.aWeek();
            }
            return w;
        }

        int bits() {
            int b = 0;
            for (int i = 0; i < seals.size(); i++) {
                b += seals.get(i).open ? 1 << i : 0;
            }
            return b;
        }

        int opened() {
            return (int) seals.stream().filter(s -> s.open).count();
        }

        int sum() {
            return hate.values().stream().mapToInt(v -> v).sum();
        }

        void newMan(int kind, int figure, int town) {
            men.add(new Man(kind, figure, town));
            for (int i = 0; i + 1 < men.size(); i++) {
                set(i, men.size() - 1, 20);
            }
        }
    }

    private World w = new World();
    private World image;
    private final Deque<World> undo = new ArrayDeque<>();
    private StringBuilder text = new StringBuilder();
    private List<Integer> row = new ArrayList<>();
    private final Map<Integer, Integer> refusals = new HashMap<>();

    /** Counts a refusal: the driver calls this with what a call threw. */
    long refused(RuntimeException e) {
        if (!(e instanceof Refusal)) {
            throw e;
        }
        int number = ((Refusal) e).number;
        refusals.merge(number, 1, Integer::sum);
        return number;
    }

    private static void must(boolean right, int number) {
        if (!right) {
            throw new Refusal(number);
        }
    }

    private static void within(int v, int least, int most) {
        must(v >= least, -4);
        must(v <= most, -6);
    }

    private static void what(int what, int most) {
        must(what >= 0 && what <= most, -2);
    }

    private void man(int man) {
        must(man >= 0 && man < w.men.size(), -1);
    }

    private void men(int... men) {
        for (int i = 0; i < men.length; i++) {
            man(men[i]);
            for (int j = 0; j < i; j++) {
                must(men[i] != men[j], -1);
            }
        }
    }

    private void seal(int letter) {
        must(letter >= 0 && letter < w.seals.size(), -1);
    }

    private static void town(int town) {
        must(town >= 0 && town <= 3, -1);
    }

    private void keep() {
        undo.addLast(w.copy());
        if (undo.size() > 8) {
            undo.removeFirst();
        }
    }

    public int feed(int letter) {
        within(letter, 0, 255);
        must(text.length() < 96, -6);
        text.append((char) letter);
        return text.length();
    }

    public int land() {
        String all = text.toString();
        text = new StringBuilder();
        String statement = "(k[0-9]{3}|h[0-9]{4}|l[0-9]{3}|g[0-9]{2}|s[0-9]|w[0-9]{2});";
        if (!all.matches("(" + statement + ")+")) {
            return -1000 - faultPlace(all);
        }
        World next = w.copy();
        int place = 0;
        int told = 0;
        for (String s : all.split(";")) {
            if (!come(next, s)) {
                return -2000 - place;
            }
            place += s.length() + 1;
            told++;
        }
        w = next;
        undo.clear();
        return told;
    }

    /** The longest beginning that some statements begin with, whatever comes behind. */
    private static int faultPlace(String all) {
        String[] shapes = {"k000;", "h0000;", "l000;", "g00;", "s0;", "w00;"};
        StringBuilder shape = new StringBuilder();
        for (char c : all.toCharArray()) {
            shape.append(c >= '0' && c <= '9' ? '0' : c);
        }
        int at = 0;
        while (true) {
            int longest = 0;
            boolean whole = false;
            for (String s : shapes) {
                int same = 0;
                while (same < s.length() && at + same < shape.length() && s.charAt(same) == shape.charAt(at + same)) {
                    same++;
                }
                longest = Math.max(longest, same);
                whole |= same == s.length();
            }
            at += longest;
            if (!whole) {
                return at;
            }
        }
    }

    private static boolean come(World next, String s) {
        int[] d = s.substring(1).chars().map(c -> c - '0').toArray();
        switch (s.charAt(0)) {
            case 'k':
                if (d[0] > 5 || d[2] > 3 || next.men.size() == 6) {
                    return false;
                }
                next.newMan(d[0], d[1], d[2]);
                return true;
            case 'h':
                if (d[0] >= next.men.size() || d[1] >= next.men.size() || d[0] == d[1]) {
                    return false;
                }
                next.set(d[0], d[1], 10 * d[2] + d[3]);
                return true;
            case 'l':
                if (d[2] > 3 || next.seals.size() == 6) {
                    return false;
                }
                next.seals.add(new Seal(10 * d[0] + d[1], d[2], false));
                return true;
            case 'g':
                if (d[0] >= next.men.size() || d[1] > 3) {
                    return false;
                }
                next.men.get(d[0]).town = d[1];
                return true;
            case 's':
                if (d[0] >= next.seals.size()) {
                    return false;
                }
                next.seals.get(d[0]).open ^= true;
                return true;
            default:
                int n = 10 * d[0] + d[1];
                if (n < 1 || n > 60 || next.week + n > 999) {
                    return false;
                }
                for (int i = 0; i < n; i++) {
                    next.aWeek();
                }
                return true;
        }
    }

    public int keeperOf(int keeper, int what) {
        man(keeper);
        what(what, 5);
        Man m = w.men.get(keeper);
        return new int[] {m.kind, m.figure, m.town, m.fades(), m.stirs(), m.pay()}[what];
    }

    public int letterOf(int letter, int what) {
        seal(letter);
        what(what, 3);
        Seal s = w.seals.get(letter);
        return new int[] {s.depth, s.town, s.open ? 1 : 0, w.opens(s)}[what];
    }

    public int hate(int one, int other) {
        men(one, other);
        return w.get(one, other);
    }

    public int keeper(int kind, int figure, int town) {
        must(kind >= 0 && kind <= 5, -2);
        within(figure, 0, 9);
        must(w.men.size() < 6, -6);
        town(town);
        undo.clear();
        w.newMan(kind, figure, town);
        return w.men.size() - 1;
    }

    public int letter(int town, int depth) {
        town(town);
        within(depth, 0, 99);
        must(w.seals.size() < 6, -6);
        undo.clear();
        w.seals.add(new Seal(depth, town, false));
        return w.seals.size() - 1;
    }

    public int hates(int one, int other, int v) {
        men(one, other);
        within(v, 0, 99);
        keep();
        int was = w.get(one, other);
        w.set(one, other, v);
        return was;
    }

    public int goes(int keeper, int town) {
        man(keeper);
        town(town);
        keep();
        int was = w.town(keeper);
        w.men.get(keeper).town = town;
        return was;
    }

    public int seals(int letter) {
        seal(letter);
        keep();
        Seal s = w.seals.get(letter);
        s.open = !s.open;
        return s.open ? 1 : 0;
    }

    public int weeks(int n) {
        within(n, 1, 60);
        must(w.week + n <= 999, -6);
        keep();
        w = w.on(n);
        return w.opened();
    }

    public int back() {
        must(!undo.isEmpty(), -3);
        w = undo.removeLast();
        return undo.size();
    }

    public int behind(int one, int other, int n) {
        men(one, other);
        within(n, 0, 60);
        return w.on(n).get(one, other);
    }

    public int then(int n, int what) {
        within(n, 0, 60);
        what(what, 1);
        return what == 0 ? w.on(n).bits() : w.on(n).sum();
    }

    public int when(int letter, int what) {
        seal(letter);
        what(what, 1);
        World t = w.copy();
        for (int n = 0; n <= 60; n++) {
            Seal s = t.seals.get(letter);
            if (s.open) {
                return what == 0 ? n : s.by;
            }
            t.aWeek();
        }
        return -9;
    }

    public int lasts(int one, int other, int depth) {
        men(one, other);
        within(depth, 0, 99);
        World t = w.copy();
        for (int n = 0; n <= 60; n++) {
            if (t.get(one, other) < depth) {
                return n;
            }
            t.aWeek();
        }
        return -9;
    }

    public int never(int what) {
        what(what, 1);
        if (what == 0) {
            return (1 << w.seals.size()) - 1 - w.on(60).bits();
        }
        int first = -9;
        int least = 61;
        for (int i = 0; i < w.seals.size(); i++) {
            int n = when(i, 0);
            if (n >= 1 && n < least) {
                least = n;
                first = i;
            }
        }
        return first;
    }

    public int insult(int one, int other, int letter) {
        men(one, other);
        seal(letter);
        must(!w.seals.get(letter).open, -3);
        for (int more = 0; more <= 99; more++) {
            World t = w.copy();
            t.set(one, other, t.get(one, other) + more);
            t.aWeek();
            if (t.seals.get(letter).by == t.key(one, other)) {
                return more;
            }
        }
        return -9;
    }

    private int openIf(int n, Consumer<World> change) {
        World t = w.copy();
        change.accept(t);
        return t.on(n).opened();
    }

    public int send(int n) {
        within(n, 0, 60);
        int best = -9;
        int most = w.on(n).opened();
        for (int k = 0; k < w.men.size(); k++) {
            for (int to = 0; to < 4; to++) {
                int keeper = k;
                int town = to;
                int open = openIf(n, t -> t.men.get(keeper).town = town);
                if (w.town(k) != to && open > most) {
                    most = open;
                    best = 10 * k + to;
                }
            }
        }
        return best;
    }

    public int places(int a, int b, int c, int n, int what) {
        men(a, b, c);
        within(n, 0, 60);
        what(what, 1);
        int best = -1;
        int most = -1;
        for (int x = 0; x < 4; x++) {
            for (int y = 0; y < 4; y++) {
                for (int z = 0; z < 4; z++) {
                    int[] to = {x, y, z};
                    int open = openIf(n, t -> {
                        t.men.get(a).town = to[0];
                        t.men.get(b).town = to[1];
                        t.men.get(c).town = to[2];
                    });
                    if (open > most) {
                        most = open;
                        best = 100 * x + 10 * y + z;
                    }
                }
            }
        }
        return what == 0 ? best : most;
    }

    public int fewest(int n, int what) {
        within(n, 0, 60);
        what(what, 1);
        int due = w.on(n).opened();
        for (int many = 0; many <= w.men.size(); many++) {
            for (int kept = 0; kept < 1 << w.men.size(); kept++) {
                int bits = kept;
                if (Integer.bitCount(kept) == many && openIf(n, t -> banish(t, bits)) >= due) {
                    return what == 0 ? kept : payOf(kept);
                }
            }
        }
        throw new IllegalStateException();
    }

    private static void banish(World t, int kept) {
        for (int i = 0; i < t.men.size(); i++) {
            if ((kept & 1 << i) == 0) {
                t.men.get(i).town = 77;
            }
        }
    }

    private int payOf(int kept) {
        int sum = 0;
        for (int i = 0; i < w.men.size(); i++) {
            sum += (kept & 1 << i) == 0 ? 0 : w.men.get(i).pay();
        }
        return sum;
    }

    public int pay(int town, int n) {
        must(town >= -1 && town <= 3, -1);
        within(n, 0, 60);
        return n * w.men.stream().filter(m -> town == -1 || m.town == town).mapToInt(Man::pay).sum();
    }

    public int deepest(int town) {
        town(town);
        for (int depth = 99; depth >= 0; depth--) {
            if (w.opens(new Seal(depth, town, false)) >= 0) {
                return depth;
            }
        }
        return -9;
    }

    public int pairs(int v) {
        within(v, 0, 99);
        return match(w.twos(), v);
    }

    private int match(List<Integer> twos, int v) {
        int most = 0;
        for (int two : twos) {
            int a = two / 10;
            int b = two % 10;
            if (w.town(a) == w.town(b) && w.get(a, b) >= v) {
                List<Integer> rest = new ArrayList<>();
                for (int t : twos) {
                    if (t > two && t / 10 != a && t / 10 != b && t % 10 != a && t % 10 != b) {
                        rest.add(t);
                    }
                }
                most = Math.max(most, 1 + match(rest, v));
            }
        }
        return most;
    }

    public int worst(int what) {
        what(what, 2);
        if (what == 2) {
            return (int) w.hate.values().stream().filter(v -> v == 0).count();
        }
        int most = w.hate.values().stream().mapToInt(v -> v).max().orElse(-9);
        return what == 1 ? most : w.twos().stream().filter(t -> w.hate.get(t) == most).findFirst().orElse(-9);
    }

    public int whoHates(int one, int other, int what) {
        men(one, other);
        what(what, 2);
        List<Integer> fit = new ArrayList<>();
        for (int v = 0; v <= 99; v++) {
            World t = w.copy();
            t.set(one, other, v);
            boolean so = true;
            for (int n = 0; n < row.size(); n++) {
                so &= t.opened() == row.get(n);
                t.aWeek();
            }
            if (so) {
                fit.add(v);
            }
        }
        if (what == 0) {
            return fit.size();
        }
        return fit.isEmpty() ? -9 : fit.get(what == 1 ? 0 : fit.size() - 1);
    }

    public int whatKind(int one, int other, int what) {
        men(one, other);
        what(what, 1);
        int bits = 0;
        for (int v = 0; v < (what == 0 ? 6 : 10); v++) {
            World t = w.copy();
            if (what == 0) {
                t.men.get(one).kind = v;
            } else {
                t.men.get(one).figure = v;
            }
            boolean so = true;
            for (int n = 0; n < row.size(); n++) {
                so &= t.get(one, other) == row.get(n);
                t.aWeek();
            }
            bits += so ? 1 << v : 0;
        }
        return bits;
    }

    private static long fraction(BigInteger above, BigInteger below, int part) {
        BigInteger d = above.gcd(below);
        return (part == 0 ? above : below).divide(d).longValueExact();
    }

    public long jug(int n, int k, int t, int part) {
        must(n >= 0 && k >= 0 && t >= 2, -4);
        must(n <= 8 && k <= 8 && t <= 20, -6);
        what(part, 1);
        BigInteger[] ways = {BigInteger.ONE, BigInteger.ZERO, BigInteger.ZERO, BigInteger.ZERO, BigInteger.ZERO,
            BigInteger.ZERO, BigInteger.ZERO, BigInteger.ZERO, BigInteger.ZERO};
        for (int i = 0; i < n; i++) {
            for (int j = 8; j >= 0; j--) {
                BigInteger not = ways[j].multiply(BigInteger.valueOf(t - 1));
                ways[j] = j == 0 ? not : not.add(ways[j - 1]);
            }
        }
        BigInteger above = BigInteger.ZERO;
        for (int j = k; j <= 8; j++) {
            above = above.add(ways[j]);
        }
        return fraction(above, BigInteger.valueOf(t).pow(n), part);
    }

    public int two(int one, int other) {
        men(one, other);
        int[][] best = new int[2][4];
        for (int c = 0; c < 4; c++) {
            World t = w.copy();
            if (c == 3) {
                t.set(one, other, t.get(one, other) / 2);
            }
            int half = t.on(4).get(one, other) / 2;
            best[0][c] = 4 * w.men.get(one).pay() - half - (c == 2 ? 3 : 0);
            best[1][c] = 4 * w.men.get(other).pay() - half - (c == 1 ? 3 : 0);
        }
        for (int c = 0; c < 4; c++) {
            if (best[0][c] >= best[0][c ^ 2] && best[1][c] >= best[1][c ^ 1]) {
                return c / 2 * 10 + c % 2;
            }
        }
        return -9;
    }

    public long meetings(int one, int other, int letter, int n, int t, int part) {
        men(one, other);
        seal(letter);
        must(n >= 0 && t >= 2, -4);
        must(n <= 7 && t <= 20, -6);
        what(part, 1);
        BigInteger above = likely(w.copy(), one, other, letter, n, BigInteger.valueOf(t - 1));
        return fraction(above, BigInteger.valueOf(t).pow(n), part);
    }

    private BigInteger likely(World s, int one, int other, int letter, int n, BigInteger not) {
        if (n == 0) {
            return s.seals.get(letter).open ? BigInteger.ONE : BigInteger.ZERO;
        }
        World met = s.copy();
        met.set(one, other, met.get(one, other) - 10);
        met.aWeek();
        World missed = s.copy();
        missed.aWeek();
        return likely(met, one, other, letter, n - 1, not)
            .add(not.multiply(likely(missed, one, other, letter, n - 1, not)));
    }

    private int crowd(int town) {
        return (int) w.men.stream().filter(m -> m.town == town).count();
    }

    public int fullest(int what) {
        what(what, 1);
        for (int many = 6; many > 0; many--) {
            for (int t = 0; t < 4; t++) {
                if (crowd(t) == many) {
                    return what == 0 ? t : many;
                }
            }
        }
        return 0;
    }

    public int thickest() {
        for (int depth = 99; depth >= 0; depth--) {
            for (int i = 0; i < w.seals.size(); i++) {
                if (!w.seals.get(i).open && w.seals.get(i).depth == depth) {
                    return i;
                }
            }
        }
        return -9;
    }

    public int mildest() {
        int best = -9;
        int least = Integer.MAX_VALUE;
        for (int i = 0; i < w.men.size(); i++) {
            int sum = 0;
            for (int two : w.twos()) {
                sum += two / 10 == i || two % 10 == i ? w.hate.get(two) : 0;
            }
            if (sum < least) {
                least = sum;
                best = i;
            }
        }
        return best;
    }

    public int bare() {
        int bits = 0;
        for (int t = 0; t < 4; t++) {
            int town = t;
            if (w.seals.stream().anyMatch(s -> !s.open && s.town == town) && crowd(t) < 2) {
                bits += 1 << t;
            }
        }
        return bits;
    }

    public long mean(int part) {
        what(part, 1);
        int twos = w.hate.size();
        return twos == 0 ? part : fraction(BigInteger.valueOf(w.sum()), BigInteger.valueOf(twos), part);
    }

    public int used(int one, int other, int n) {
        men(one, other);
        within(n, 0, 60);
        return w.get(one, other) - w.on(n).get(one, other);
    }

    public int swap(int n) {
        within(n, 0, 60);
        int best = -9;
        int most = w.on(n).opened();
        for (int two : w.twos()) {
            Man a = w.men.get(two / 10);
            Man b = w.men.get(two % 10);
            int open = openIf(n, t -> {
                t.men.get(two / 10).town = b.town;
                t.men.get(two % 10).town = a.town;
            });
            if (a.town != b.town && open > most) {
                most = open;
                best = two;
            }
        }
        return best;
    }

    public int apart(int n) {
        within(n, 0, 60);
        int idle = 0;
        World t = w.copy();
        for (int i = 0; i < n; i++) {
            idle += t.aWeek() == 0 ? 1 : 0;
        }
        return idle;
    }

    public int enemy(int keeper) {
        man(keeper);
        int best = -9;
        int most = -1;
        for (int i = 0; i < w.men.size(); i++) {
            if (i != keeper && w.get(i, keeper) > most) {
                most = w.get(i, keeper);
                best = i;
            }
        }
        return best;
    }

    public int can(int v) {
        within(v, 0, 99);
        int bits = 0;
        for (int t = 0; t < 4; t++) {
            bits += w.opens(new Seal(v, t, false)) >= 0 ? 1 << t : 0;
        }
        return bits;
    }

    public int row(int v) {
        within(v, 0, 99);
        must(row.size() < 12, -6);
        row.add(v);
        return row.size();
    }

    public int judge(int keeper) {
        man(keeper);
        List<Integer> told = row;
        row = new ArrayList<>();
        for (int i = 0; i < told.size(); i++) {
            if (i >= w.men.size() || told.get(i) != (i == keeper ? 0 : w.get(i, keeper))) {
                return i;
            }
        }
        return -9;
    }

    public int clear() {
        int had = row.size();
        row.clear();
        return had;
    }

    public int lots(int n, int z, int what) {
        within(n, 1, 20);
        what(what, 1);
        int sum = 0;
        long seed = z;
        for (int i = 0; i < n; i++) {
            World t = w.copy();
            for (int two : w.twos()) {
                seed = seed * 1103515245L + 12345L & 0xffffffffL;
                t.set(two / 10, two % 10, (int) ((seed & 0x7fffffffL) >> 16) % 60);
            }
            World end = t.on(10);
            sum += what == 0 ? end.opened() - w.opened() : end.sum();
        }
        return sum;
    }

    public int image() {
        image = w.copy();
        return w.week;
    }

    public int restore() {
        must(image != null, -3);
        w = image.copy();
        undo.clear();
        return w.week;
    }

    public int count(int what) {
        int[] told = {w.men.size(), w.seals.size(), w.week, w.bits(), w.sum(), text.length(), row.size(), undo.size()};
        if (what >= 0 && what < told.length) {
            return told[what];
        }
        return what >= 11 && what <= 16 ? refusals.getOrDefault(10 - what, 0) : -9;
    }
}
