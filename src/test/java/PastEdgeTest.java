import java.util.ArrayList;
import java.util.List;

/** The edges of parts III and IV, of the ROW, THE IMAGE and count(), sentence by sentence. */
public final class PastEdgeTest extends Edges {
    private static final int[] TWOS = {1, 2, 3, 4, 5, 12, 13, 14, 15, 23, 24, 25, 34, 35, 45};
    private static final String SIX = "k000;k000;k000;k000;k000;k000;";

    public static void main(String[] args) {
        all();
        end("the edges of parts III and IV hold");
    }

    static void all() {
        newObject();
        callsOfOne();
        takenBackEach();
        takenBackUnchanged();
        takenBackRefused();
        takenBackEight();
        takenBackOften();
        takenBackNone();
        noneLeft();
        someLeft();
        fullest();
        thickest();
        mildest();
        bare();
        mean();
        used();
        swap();
        swapFirst();
        apart();
        enemy();
        can();
        rowEdges();
        judgeTakesTheRow();
        clear();
        image();
        imageLatest();
        imageLeavesOut();
        restoreNone();
        restoreWeek();
        counts();
        countRefusals();
        countOther();
    }

    private static void newObject() {
        by(1, "Nobody, no LETTERS.");
        OnlyTwoEnemies x = new OnlyTwoEnemies();
        for (int what = 0; what <= 7; what++) {
            due(x.count(what), 0);
        }
        due(refused(x), 0);
        for (int i = 0; i < 6; i++) {
            due(x.keeperOf(i, 0), -1);
            due(x.letterOf(i, 0), -1);
            due(x.enemy(i), -1);
            due(x.judge(i), -1);
            due(x.when(i, 0), -1);
            due(x.goes(i, 0), -1);
            due(x.seals(i), -1);
            due(x.hate(i, 5 - i), -1);
        }
        due(x.count(11), 48);
        due(refused(x), 48);
        due(x.fullest(0), 0);
        due(x.fullest(1), 0);
        due(x.bare(), 0);
        due(x.can(0), 0);
        due(x.weeks(60), 0);
        due(x.then(60, 0), 0);
        due(x.apart(60), 60);
        due(x.lots(20, 3, 0), 0);
        due(x.pairs(0), 0);
        due(x.image(), 60);
    }

    /** Other objects have nothing to do with it, and its 512th call is answered as its first. */
    private static void callsOfOne() {
        by(48, "11 .. 16 REFUSALS -1 .. -6.");
        OnlyTwoEnemies x = new OnlyTwoEnemies();
        OnlyTwoEnemies other = new OnlyTwoEnemies();
        for (int i = 0; i < 511; i++) {
            due(x.back(), -3);
        }
        due(x.count(13), 511);
        due(other.count(13), 0);
    }

    private static void takenBackEach() {
        by("==== III. What hates(), goes(), seals(), weeks() changed can be TAKEN BACK");
        OnlyTwoEnemies x = told("k100;k100;k481;l200;l993;s1;w03;h0121;");
        List<Long> was = country(x);
        for (int which = 0; which < 4; which++) {
            due(change(x, which) < 0 ? 1 : 0, 0);
            due(x.count(7), 1);
            due(country(x).equals(was) ? 1 : 0, 0);
            due(x.back(), 0);
            same(country(x), was);
            due(x.back(), -3);
        }
        for (int which = 0; which < 4; which++) {
            change(x, which);
        }
        due(x.count(7), 4);
        for (int i = 3; i >= 0; i--) {
            due(x.back(), i);
        }
        same(country(x), was);
    }

    private static int change(OnlyTwoEnemies x, int which) {
        switch (which) {
            case 0: return x.hates(0, 1, 77);
            case 1: return x.goes(1, 3);
            case 2: return x.seals(0);
            default: return x.weeks(2);
        }
    }

    private static void takenBackUnchanged() {
        by("(each that is not refused counts, also if all stays as it was),");
        OnlyTwoEnemies x = told("k000;k000;l000;");
        due(x.hates(0, 1, 20), 20);
        due(x.count(7), 1);
        due(x.goes(0, 0), 0);
        due(x.count(7), 2);
        due(x.goes(0, 0), 0);
        due(x.count(7), 3);
        due(x.back(), 2);
        due(x.back(), 1);
        due(x.back(), 0);
        due(x.back(), -3);
    }

    private static void takenBackRefused() {
        by("(each that is not refused counts, also if all stays as it was),");
        OnlyTwoEnemies x = told("k000;k000;l000;");
        until(x, 999);
        due(x.count(7), 8);
        OnlyTwoEnemies y = told("k000;k000;l000;");
        for (OnlyTwoEnemies o : new OnlyTwoEnemies[] {x, y}) {
            int many = o.count(7);
            o.hates(0, 0, 5);
            o.hates(0, 2, 5);
            o.hates(0, 1, -1);
            o.hates(0, 1, 100);
            o.goes(2, 0);
            o.goes(0, 4);
            o.goes(0, -1);
            o.seals(1);
            o.seals(-1);
            o.weeks(0);
            o.weeks(-1);
            o.weeks(61);
            due(refused(o), 12);
            due(o.count(7), many);
        }
        due(x.weeks(1), -6);
        due(x.count(7), 8);
    }

    private static void takenBackEight() {
        by("the latest first, 8 at most (older ones no more;");
        OnlyTwoEnemies x = told("k000;k000;");
        for (int i = 1; i <= 9; i++) {
            due(x.hates(0, 1, 30 + i), i == 1 ? 20 : 29 + i);
            due(x.count(7), Math.min(i, 8));
        }
        for (int i = 7; i >= 0; i--) {
            due(x.back(), i);
            due(x.hate(0, 1), 31 + i);
            due(x.count(7), i);
        }
        due(x.back(), -3);
        due(x.hate(0, 1), 31);
        // Eight exactly: the first of them is taken back, too.
        OnlyTwoEnemies y = told("k000;k000;");
        for (int i = 1; i <= 8; i++) {
            y.hates(0, 1, 30 + i);
        }
        for (int i = 7; i >= 0; i--) {
            due(y.back(), i);
        }
        due(y.hate(0, 1), 20);
        due(y.back(), -3);
    }

    private static void takenBackOften() {
        by("the latest first, 8 at most (older ones no more;");
        OnlyTwoEnemies x = told("k000;k000;");
        List<Integer> past = new ArrayList<>();
        for (int i = 0; i < 70; i++) {
            if (i % 7 < 5) {
                past.add(x.hate(0, 1));
                x.hates(0, 1, i);
                if (past.size() > 8) {
                    past.remove(0);
                }
            } else {
                int was = past.remove(past.size() - 1);
                due(x.back(), past.size());
                due(x.hate(0, 1), was);
            }
            due(x.count(7), past.size());
        }
    }

    private static void takenBackNone() {
        by(13, "TAKEN BACK: how many can still be. -3 none.");
        OnlyTwoEnemies x = new OnlyTwoEnemies();
        due(x.back(), -3);
        due(x.back(), -3);
        due(x.count(13), 2);
        due(x.weeks(1), 0);
        due(x.back(), 0);
        due(x.count(2), 0);
        due(x.back(), -3);
        due(x.count(13), 3);
        due(refused(x), 3);
    }

    private static void noneLeft() {
        by("keeper(), letter(), a LAND without FAULT, restore(), where they are not refused, leave none).");
        for (int which = 0; which < 4; which++) {
            OnlyTwoEnemies x = told("k000;k000;l000;");
            x.image();
            for (int i = 0; i < 8; i++) {
                x.hates(0, 1, 30 + i);
            }
            due(x.count(7), 8);
            int got = which == 0 ? x.keeper(0, 0, 0) : which == 1 ? x.letter(0, 0) : which == 2 ? tell(x, "s0;") : x.restore();
            due(got, which == 0 ? 2 : which < 3 ? 1 : 0);
            due(x.count(7), 0);
            due(x.back(), -3);
            due(x.hate(0, 1), which < 3 ? 37 : 20);
            // What comes then can be taken back, and no more.
            x.hates(0, 1, 50);
            x.hates(0, 1, 51);
            due(x.back(), 1);
            due(x.back(), 0);
            due(x.back(), -3);
            due(x.hate(0, 1), which < 3 ? 37 : 20);
        }
    }

    private static void someLeft() {
        by("where they are not refused, leave none).");
        OnlyTwoEnemies x = told("k000;k000;l000;");
        x.hates(0, 1, 30);
        x.goes(0, 1);
        due(x.restore(), -3);
        due(x.keeper(6, 0, 0), -2);
        due(x.keeper(0, 10, 0), -6);
        due(x.keeper(0, 0, 4), -1);
        due(x.letter(4, 0), -1);
        due(x.letter(0, 100), -6);
        due(x.land(), -1000);
        due(tell(x, "k000;w00;"), -2005);
        due(x.count(7), 2);
        // Whatever else is called leaves what there was.
        x.image();
        x.feed(5);
        x.row(5);
        x.judge(0);
        x.clear();
        x.behind(0, 1, 60);
        due(x.count(7), 2);
        due(x.back(), 1);
        due(x.back(), 0);
        due(x.hate(0, 1), 20);
        OnlyTwoEnemies full = told(SIX + "l000;l000;l000;l000;l000;l000;");
        full.seals(0);
        due(full.keeper(0, 0, 0), -6);
        due(full.letter(0, 0), -6);
        due(full.count(7), 1);
    }

    private static void fullest() {
        by("FULLEST: the TOWN with most KEEPERS, of several the least; how many.");
        OnlyTwoEnemies x = new OnlyTwoEnemies();
        due(x.fullest(0), 0);
        due(x.fullest(1), 0);
        for (int i = 0; i < 6; i++) {
            x.keeper(0, 0, 3);
            due(x.fullest(0), 3);
            due(x.fullest(1), i + 1);
        }
        x.goes(0, 2);
        x.goes(1, 2);
        due(x.fullest(0), 3);
        x.goes(2, 2);
        due(x.fullest(0), 2);
        due(x.fullest(1), 3);
        x.goes(3, 0);
        x.goes(4, 0);
        x.goes(2, 1);
        due(x.fullest(0), 0);
        due(x.fullest(1), 2);
        x.goes(3, 1);
        due(x.fullest(0), 1);
        due(x.fullest(1), 2);
    }

    private static void thickest() {
        by("THICKEST: the SEALED LETTER of most DEPTH, of several the least; -9.");
        OnlyTwoEnemies x = new OnlyTwoEnemies();
        due(x.thickest(), -9);
        x.letter(0, 0);
        due(x.thickest(), 0);
        x.seals(0);
        due(x.thickest(), -9);
        tell(x, "l983;l990;l991;l982;l000;");
        for (int due : new int[] {2, 3, 1, 4, 5, -9}) {
            due(x.thickest(), due);
            x.seals(Math.max(0, due));
        }
        due(x.thickest(), 0);
        x.seals(5);
        due(x.thickest(), 0);
        OnlyTwoEnemies six = told("l991;l000;l000;l000;l000;l000;s0;");
        due(six.thickest(), 1);
    }

    private static void mildest() {
        by("MILDEST: the KEEPER whose HATES together are least, of several the least; -9.");
        OnlyTwoEnemies x = new OnlyTwoEnemies();
        due(x.mildest(), -9);
        for (int i = 0; i < 6; i++) {
            x.keeper(0, 0, i % 4);
            due(x.mildest(), 0);
        }
        for (int i = 0; i <= 4; i++) {
            // Less by one each with the last, who has the least of all then.
            x.hates(i, 5, 19);
            due(x.mildest(), i == 0 ? 0 : 5);
        }
        x.hates(0, 1, 99);
        x.hates(2, 5, 99);
        x.hates(3, 5, 99);
        due(x.mildest(), 4);
        x.hates(0, 4, 99);
        x.hates(3, 4, 99);
        x.hates(1, 2, 0);
        due(x.mildest(), 1);
        // 1 and 2 alike, then 2 alone.
        x.hates(0, 2, 19);
        due(x.mildest(), 1);
        x.hates(2, 3, 19);
        due(x.mildest(), 2);
    }

    private static void bare() {
        by("BARE: TOWNS (bits) with a SEALED LETTER and fewer than two KEEPERS.");
        OnlyTwoEnemies x = new OnlyTwoEnemies();
        due(x.bare(), 0);
        for (int town = 0; town <= 3; town++) {
            x.letter(town, 0);
            due(x.bare(), (1 << town + 1) - 1);
        }
        x.letter(3, 50);
        x.keeper(0, 0, 3);
        due(x.bare(), 15);
        x.keeper(0, 0, 3);
        due(x.bare(), 7);
        x.keeper(0, 0, 3);
        due(x.bare(), 7);
        x.goes(0, 0);
        x.goes(1, 0);
        due(x.bare(), 2 + 4 + 8);
        x.seals(3);
        due(x.bare(), 2 + 4 + 8);
        x.seals(4);
        due(x.bare(), 2 + 4);
        x.seals(1);
        x.seals(2);
        due(x.bare(), 0);
    }

    private static void mean() {
        by("==== IV. MEAN HATE of all twos: a fraction (0 over 1 of none).");
        OnlyTwoEnemies x = new OnlyTwoEnemies();
        fraction(x.mean(0), x.mean(1), 0, 1);
        x.keeper(0, 0, 0);
        fraction(x.mean(0), x.mean(1), 0, 1);
        for (int i = 1; i <= 5; i++) {
            x.keeper(0, 0, i % 4);
            fraction(x.mean(0), x.mean(1), 20, 1);
        }
        x.hates(0, 1, 21);
        fraction(x.mean(0), x.mean(1), 301, 15);
        x.hates(0, 1, 23);
        fraction(x.mean(0), x.mean(1), 101, 5);
        x.hates(0, 1, 25);
        fraction(x.mean(0), x.mean(1), 61, 3);
        for (int two : TWOS) {
            x.hates(two / 10, two % 10, 99);
        }
        fraction(x.mean(0), x.mean(1), 99, 1);
        for (int two : TWOS) {
            x.hates(two / 10, two % 10, 0);
        }
        fraction(x.mean(0), x.mean(1), 0, 1);
        x.hates(4, 5, 1);
        fraction(x.mean(0), x.mean(1), 1, 15);
    }

    private static void used() {
        by("USED: by how much HATE of two is less behind n WEEKS (may be below 0).");
        OnlyTwoEnemies x = told("k390;k390;k481;k482;h0199;h2300;");
        due(x.used(0, 1, 0), 0);
        due(x.used(0, 1, 1), 10);
        due(x.used(1, 0, 9), 90);
        due(x.used(0, 1, 10), 99);
        due(x.used(0, 1, 60), 99);
        due(x.used(2, 3, 0), 0);
        due(x.used(2, 3, 1), -6);
        due(x.used(3, 2, 16), -96);
        due(x.used(2, 3, 17), -99);
        due(x.used(2, 3, 60), -99);
        due(refused(x), 0);
    }

    private static void swap() {
        by("SWAP: the two KEEPERS (10 the lesser and the other; not in one TOWN) who, changing TOWNS, "
            + "let most LETTERS be OPEN behind n WEEKS, more than else,");
        OnlyTwoEnemies x = new OnlyTwoEnemies();
        due(x.swap(0), -9);
        due(x.swap(60), -9);
        x.keeper(1, 0, 0);
        due(x.swap(60), -9);
        tell(x, "k101;k101;l200;");
        due(x.swap(60), -9);
        OnlyTwoEnemies y = told("k100;k101;k100;k101;l210;h0121;");
        due(y.swap(0), -9);
        // 1 comes for 2; 0 for 3 would bring nobody to 1.
        due(y.swap(1), 12);
        due(y.swap(60), 12);
        due(y.keeperOf(1, 2), 1);
        due(y.keeperOf(2, 2), 0);
        y.letter(1, 21);
        due(y.swap(1), 3);
        y.hates(2, 3, 21);
        // 0 and 1 in the one, 2 and 3 in the other TOWN open both.
        due(y.swap(1), 3);
        y.hates(0, 2, 21);
        due(y.swap(1), 3);
        y.hates(1, 3, 21);
        due(y.swap(1), -9);
    }

    /** 0, 1, 2 are in one TOWN, 3, 4, 5 in another; who comes to the first opens its LETTER with whom he HATES by 20. */
    private static void swapFirst() {
        by("of several the first; -9.");
        int[] twos = {3, 4, 5, 13, 14, 15, 23, 24, 25};
        for (int hating = 0; hating < 1 << twos.length; hating += 3) {
            OnlyTwoEnemies x = told("k100;k100;k100;k101;k101;k101;l200;h0100;h0200;h1200;h3400;h3500;h4500;");
            for (int i = 0; i < twos.length; i++) {
                x.hates(twos[i] / 10, twos[i] % 10, (hating >> i & 1) * 20);
            }
            due(x.swap(1), firstSwap(twos, hating));
        }
    }

    /** The first two of whom the one who comes HATES one of those who stay. */
    private static int firstSwap(int[] twos, int hating) {
        for (int two : twos) {
            for (int i = 0; i < twos.length; i++) {
                boolean stays = twos[i] / 10 != two / 10 && twos[i] % 10 == two % 10;
                if (stays && (hating >> i & 1) == 1) {
                    return two;
                }
            }
        }
        return -9;
    }

    private static void apart() {
        by("APART: in how many WEEKS of n nothing is opened.");
        OnlyTwoEnemies x = new OnlyTwoEnemies();
        due(x.apart(0), 0);
        due(x.apart(1), 1);
        due(x.apart(60), 60);
        tell(x, "k100;k100;l200;l150;l100;");
        due(x.apart(0), 0);
        due(x.apart(1), 0);
        due(x.apart(2), 1);
        due(x.apart(60), 59);
        x.weeks(1);
        due(x.apart(0), 0);
        due(x.apart(60), 60);
        x.seals(2);
        due(x.apart(60), 60);
        x.hates(0, 1, 10);
        due(x.apart(60), 59);
    }

    private static void enemy() {
        by("ENEMY of one: whom he HATES most, of several the least; -9.");
        OnlyTwoEnemies x = told("k000;");
        due(x.enemy(0), -9);
        tell(x, "k001;k002;k003;k000;k001;");
        for (int i = 0; i < 6; i++) {
            due(x.enemy(i), i == 0 ? 1 : 0);
            for (int other = 5; other >= 0; other--) {
                if (other != i) {
                    x.hates(i, other, 99);
                    due(x.enemy(i), other);
                }
            }
            for (int other = 0; other < 6; other++) {
                x.hates(i, other, 20);
            }
        }
        for (int two : TWOS) {
            x.hates(two / 10, two % 10, 0);
        }
        due(x.enemy(0), 1);
        due(x.enemy(5), 0);
        x.hates(5, 4, 1);
        due(x.enemy(5), 4);
        due(x.enemy(4), 5);
    }

    private static void can() {
        by("CAN: TOWNS (bits) that can open a DEPTH v (0 .. 99) now.");
        OnlyTwoEnemies x = new OnlyTwoEnemies();
        due(x.can(0), 0);
        due(x.can(99), 0);
        tell(x, "k000;k000;k003;k003;k001;k002;h0199;h2300;h4599;");
        due(x.can(0), 1 + 8);
        due(x.can(1), 1);
        due(x.can(99), 1);
        x.hates(0, 1, 98);
        due(x.can(98), 1);
        due(x.can(99), 0);
        x.goes(5, 1);
        due(x.can(99), 2);
        due(x.can(98), 1 + 2);
        due(x.can(0), 1 + 2 + 8);
        x.goes(2, 2);
        x.goes(3, 2);
        due(x.can(0), 1 + 2 + 4);
    }

    private static void rowEdges() {
        by(42, "A number more of the ROW: how many. -4; -6 (99; 12, too).");
        OnlyTwoEnemies x = new OnlyTwoEnemies();
        due(x.row(-1), -4);
        due(x.row(MIN), -4);
        due(x.row(100), -6);
        due(x.row(MAX), -6);
        due(x.count(6), 0);
        for (int i = 1; i <= 12; i++) {
            due(x.row(i % 2 == 0 ? 0 : 99), i);
            due(x.count(6), i);
        }
        due(x.row(0), -6);
        due(x.row(99), -6);
        due(x.row(100), -6);
        due(x.row(-1), -4);
        due(x.count(6), 12);
        due(x.count(14), 3);
        due(x.count(16), 5);
        due(refused(x), 8);
        due(x.clear(), 12);
        due(x.row(0), 1);
    }

    private static void judgeTakesTheRow() {
        by(43, "JUDGED; -9 (whichever it answers, the ROW has none then). -1 (it stays).");
        OnlyTwoEnemies x = told("k000;k000;");
        rowOf(x, 0, 20);
        due(x.judge(-1), -1);
        due(x.judge(2), -1);
        due(x.judge(MIN), -1);
        due(x.judge(MAX), -1);
        due(x.count(6), 2);
        due(x.judge(0), -9);
        due(x.count(6), 0);
        rowOf(x, 0, 21);
        due(x.judge(0), 1);
        due(x.count(6), 0);
        due(x.clear(), 0);
        due(x.judge(0), -9);
        due(x.count(11), 4);
        due(refused(x), 4);
    }

    private static void clear() {
        by(44, "The ROW has none then: how many it had.");
        OnlyTwoEnemies x = new OnlyTwoEnemies();
        for (int many = 0; many <= 12; many++) {
            for (int i = 0; i < many; i++) {
                x.row(i);
            }
            due(x.clear(), many);
            due(x.count(6), 0);
            due(x.clear(), 0);
        }
        due(refused(x), 0);
    }

    private static void image() {
        by("THE IMAGE: all that there is of I, but it, letters, the ROW, REFUSALS.");
        OnlyTwoEnemies x = told("k130;k291;k482;h0177;l501;l002;s1;w03;");
        List<Long> was = country(x);
        due(x.image(), 3);
        tell(x, "k593;l993;g03;h0100;h1211;s0;s1;w60;");
        x.hates(0, 2, 99);
        due(x.restore(), 3);
        same(country(x), was);
        // Once more, and as if nothing had been meanwhile.
        tell(x, "k000;k000;k000;l000;l000;l000;l000;w60;");
        due(x.restore(), 3);
        same(country(x), was);
        due(x.keeper(0, 0, 0), 3);
        due(x.letter(0, 0), 2);
        due(x.hate(0, 3), 20);
        due(x.letterOf(2, 2), 0);
    }

    private static void imageLatest() {
        by(46, "THE IMAGE is taken: WEEK.");
        OnlyTwoEnemies x = new OnlyTwoEnemies();
        due(x.image(), 0);
        tell(x, "k000;k000;l000;");
        x.weeks(1);
        due(x.count(3), 1);
        due(x.image(), 1);
        until(x, 999);
        due(x.restore(), 1);
        due(x.count(0), 2);
        due(x.count(3), 1);
        until(x, 999);
        due(x.image(), 999);
        due(x.back(), 7);
        due(x.count(2) < 999 ? 1 : 0, 1);
        due(x.restore(), 999);
        due(x.weeks(1), -6);
    }

    private static void imageLeavesOut() {
        by("but it, letters, the ROW, REFUSALS.");
        OnlyTwoEnemies x = told("k000;k000;");
        fed(x, "w0");
        rowOf(x, 0);
        x.hate(9, 9);
        due(x.image(), 0);
        fed(x, "5;");
        x.row(20);
        x.hate(9, 9);
        x.weeks(1);
        due(x.restore(), 0);
        due(x.count(5), 4);
        due(x.count(6), 2);
        due(x.count(11), 2);
        due(x.judge(0), -9);
        due(x.land(), 1);
        due(x.count(2), 5);
        due(x.restore(), 0);
        due(x.restore(), 0);
        due(x.count(5), 0);
        due(x.count(6), 0);
    }

    private static void restoreNone() {
        by(47, "-3 there is none.");
        OnlyTwoEnemies x = told("k000;k000;");
        x.hates(0, 1, 30);
        due(x.restore(), -3);
        due(x.restore(), -3);
        due(x.count(13), 2);
        due(refused(x), 2);
        due(x.count(0), 2);
        due(x.hate(0, 1), 30);
        due(x.count(7), 1);
        due(x.image(), 0);
        due(x.restore(), 0);
        due(x.count(13), 2);
    }

    private static void restoreWeek() {
        by(47, "It is RESTORED: WEEK.");
        OnlyTwoEnemies x = new OnlyTwoEnemies();
        for (int week = 0; week <= 4; week++) {
            due(x.image(), week);
            x.weeks(5);
            due(x.restore(), week);
            due(x.count(2), week);
            x.weeks(1);
        }
        x.image();
        tell(x, "k000;l000;");
        due(x.restore(), 5);
        due(x.count(0), 0);
        due(x.count(1), 0);
    }

    private static void counts() {
        by(48, "0 KEEPERS, 1 LETTERS, 2 WEEK, 3 OPEN ones (bits), 4 all HATE, 5 letters fed, 6 in the ROW, "
            + "7 what can be TAKEN BACK,");
        OnlyTwoEnemies x = told(SIX + "l990;l990;l990;l990;l990;l990;s0;s1;s2;s3;s4;s5;");
        until(x, 999);
        for (int two : TWOS) {
            x.hates(two / 10, two % 10, 99);
        }
        fed(x, times(96, "w"));
        for (int i = 0; i < 12; i++) {
            x.row(99);
        }
        int[] most = {6, 6, 999, 63, 1485, 96, 12, 8};
        for (int what = 0; what <= 7; what++) {
            due(x.count(what), most[what]);
        }
        x.seals(0);
        x.seals(2);
        x.seals(4);
        due(x.count(3), 42);
        due(refused(x), 0);
    }

    private static void countRefusals() {
        by(48, "11 .. 16 REFUSALS -1 .. -6.");
        OnlyTwoEnemies x = new OnlyTwoEnemies();
        int[] many = {0, 0, 0, 0, 0, 0};
        for (int round = 1; round <= 5; round++) {
            due(x.seals(0), -1);
            many[0]++;
            for (int i = 0; i < 2; i++) {
                due(x.never(2), -2);
                many[1]++;
            }
            for (int i = 0; i < 3; i++) {
                due(x.back(), -3);
                many[2]++;
            }
            for (int i = 0; i < 4; i++) {
                due(x.weeks(0), -4);
                many[3]++;
            }
            for (int i = 0; i < 6; i++) {
                due(x.weeks(61), -6);
                many[5]++;
            }
            for (int what = 11; what <= 16; what++) {
                due(x.count(what), many[what - 11]);
            }
        }
        // Of longs and of used() as well.
        due(x.mean(2), LONG + 2);
        due(x.used(0, 1, 0), 1000000001);
        due(x.jug(9, 0, 2, 0), LONG + 6);
        due(x.count(12), 11);
        due(x.count(11), 6);
        due(x.count(16), 31);
        due(x.count(15), 0);
    }

    private static void countOther() {
        by(48, "-9 for another what.");
        OnlyTwoEnemies x = told(SIX);
        x.never(2);
        for (int what : new int[] {MIN, -17, -9, -2, -1, 8, 9, 10, 17, 18, 100, MAX}) {
            due(x.count(what), -9);
        }
        due(refused(x), 1);
    }
}
