/** Each promise of the document by hand: ordinary calls, the edges that it names, and wrong calls. */
public final class PromiseTest {
    private static final long LONG = 4000000000000000000L;
    private static int wrong;
    private static int promise;

    public static void main(String[] args) {
        newObject();
        feed();
        landComes();
        landBroken();
        landFalse();
        keeperOf();
        letterOf();
        hate();
        keeper();
        letter();
        hates();
        goes();
        seals();
        weeks();
        weeksOpen();
        back();
        behind();
        then();
        when();
        lasts();
        never();
        insult();
        send();
        places();
        fewest();
        fewestOpenMore();
        pay();
        deepest();
        pairs();
        worst();
        whoHates();
        whatKind();
        jug();
        two();
        meetings();
        fullest();
        thickest();
        mildest();
        bare();
        mean();
        used();
        swap();
        apart();
        enemy();
        can();
        row();
        judge();
        clear();
        lots();
        image();
        restore();
        count();
        System.out.println(wrong == 0 ? "all promises hold" : wrong + " answers break a promise");
        if (wrong != 0) {
            System.exit(1);
        }
    }

    private static void due(long got, long want) {
        if (got != want) {
            wrong++;
            int line = Thread.currentThread().getStackTrace()[2].getLineNumber();
            System.out.println("promise " + promise + ", line " + line + ": answered " + got + ", due is " + want);
        }
    }

    private static int tell(OnlyTwoEnemies x, String text) {
        for (char c : text.toCharArray()) {
            x.feed(c);
        }
        return x.land();
    }

    private static OnlyTwoEnemies told(String text) {
        OnlyTwoEnemies x = new OnlyTwoEnemies();
        if (tell(x, text) < 0) {
            wrong++;
            System.out.println("no land: " + text);
        }
        return x;
    }

    /** One of each kind; the kinds' FADES are 1 0 2 3 0 3, STIRS 0 1 0 0 3 0, PAY 5 8 5 0 17 2. */
    private static OnlyTwoEnemies six() {
        return told("k040;k130;k291;k351;k482;k522;");
    }

    /** A KEEPER and a BROTHER in TOWN 0: their hatred is 1 less each week. */
    private static OnlyTwoEnemies pair() {
        return told("k040;k130;");
    }

    /** What nobody should have changed. */
    private static void untouched(OnlyTwoEnemies x, int keepers, int letters, int hate, int undo) {
        due(x.count(0), keepers);
        due(x.count(1), letters);
        due(x.count(4), hate);
        due(x.count(7), undo);
    }

    private static void newObject() {
        promise = 1;
        OnlyTwoEnemies x = new OnlyTwoEnemies();
        for (int what = 0; what <= 7; what++) {
            due(x.count(what), 0);
        }
        for (int what = 11; what <= 16; what++) {
            due(x.count(what), 0);
        }
        due(x.keeperOf(0, 0), -1);
        due(x.letterOf(0, 0), -1);
        due(x.restore(), -3);
        due(x.back(), -3);
    }

    private static void feed() {
        promise = 2;
        OnlyTwoEnemies x = new OnlyTwoEnemies();
        due(x.feed(0), 1);
        due(x.feed(255), 2);
        due(x.feed(-1), -4);
        due(x.feed(256), -6);
        due(x.feed(Integer.MIN_VALUE), -4);
        due(x.feed(Integer.MAX_VALUE), -6);
        due(x.count(5), 2);
        for (int i = 3; i <= 96; i++) {
            due(x.feed(';'), i);
        }
        due(x.feed(';'), -6);
        due(x.feed(-1), -4);
        due(x.count(5), 96);
        due(x.count(14), 3);
        due(x.count(16), 3);
    }

    private static void landComes() {
        promise = 3;
        OnlyTwoEnemies x = new OnlyTwoEnemies();
        due(tell(x, "k040;k131;h0133;l300;l103;g10;s1;w01;"), 8);
        due(x.count(0), 2);
        due(x.count(1), 2);
        due(x.count(2), 1);
        due(x.count(3), 3);
        due(x.hate(0, 1), 27);
        due(x.keeperOf(1, 0), 1);
        due(x.keeperOf(1, 1), 3);
        due(x.keeperOf(1, 2), 0);
        due(x.letterOf(0, 0), 30);
        due(x.letterOf(1, 1), 3);
        due(x.count(5), 0);
        due(x.count(7), 0);
        due(tell(x, "s1;"), 1);
        due(x.count(3), 1);
        due(tell(x, "h1099;"), 1);
        due(x.hate(0, 1), 99);
        x.goes(1, 2);
        due(tell(x, "s1;"), 1);
        due(x.count(7), 0);
        due(tell(x, "s0;s0;s0;s0;s0;s0;s0;s0;s0;s0;s0;s0;s0;s0;s0;s0;s0;s0;s0;s0;s0;s0;s0;s0;s0;s0;s0;s0;s0;s0;s0;s0;"), 32);
        due(tell(x, "w60;w60;w60;w60;w60;w60;w60;w60;w60;w60;w60;w60;w60;w60;w60;w60;w38;"), 17);
        due(x.count(2), 999);
    }

    private static void landBroken() {
        promise = 3;
        String[] texts = {"", "x", "k", "k0", "k00", "k000", "k00a;", "k000;;", "k000;k", "k000;x", "h011;", "w1;",
            "s12;", "K000;", "g00;x", "l1;", "g0;", "0", ";", "k 00;", "h0199", "w012", "w/1;", "w1:;", "kk00;"};
        int[] places = {0, 0, 1, 2, 3, 4, 3, 5, 6, 5, 4, 2,
            2, 0, 4, 2, 2, 0, 0, 1, 5, 3, 1, 2, 1};
        OnlyTwoEnemies x = pair();
        x.hates(0, 1, 7);
        for (int i = 0; i < texts.length; i++) {
            due(tell(x, texts[i]), -1000 - places[i]);
            due(x.count(5), 0);
            untouched(x, 2, 0, 7, 1);
        }
        for (int what = 11; what <= 16; what++) {
            due(x.count(what), 0);
        }
        x = pair();
        x.hates(0, 1, 7);
        due(tell(x, "h0199;h0199;h0199;h0199;h0199;h0199;h0199;h0199;h0199;h0199;h0199;h0199;h0199;h0199;h0199;k00000"), -1094);
        due(tell(x, "h0199;h0199;h0199;h0199;h0199;h0199;h0199;h0199;h0199;h0199;h0199;h0199;h0199;h0199;h0199;h01999"), -1095);
        due(tell(x, "h0199;h0199;h0199;h0199;h0199;h0199;h0199;h0199;h0199;h0199;h0199;h0199;h0199;h0199;h0199;s0;w01"), -1096);
        untouched(x, 2, 0, 7, 1);
    }

    private static void landFalse() {
        promise = 3;
        String[] texts = {"h0299;", "h2099;", "h1199;", "k600;", "k004;", "l994;", "l009;", "g20;", "g04;", "s0;", "l000;s1;",
            "w00;", "w61;", "w99;", "k000;g30;", "k000;h0199;h0320;", "k000;k000;k000;k000;k000;", "k000;k000;k000;k000;g54;",
            "l000;l000;l000;l000;l000;l000;l000;", "h0150;k009;s0;", "k010;l000;w01;s0;g99;"};
        int[] places = {0, 0, 0, 0, 0, 0, 0, 0, 0, 0, 5,
            0, 0, 0, 5, 11, 20, 20,
            30, 6, 17};
        OnlyTwoEnemies x = pair();
        x.hates(0, 1, 7);
        for (int i = 0; i < texts.length; i++) {
            due(tell(x, texts[i]), -2000 - places[i]);
            due(x.count(5), 0);
            untouched(x, 2, 0, 7, 1);
            due(x.count(2), 0);
        }
        for (int i = 0; i < 16; i++) {
            due(x.weeks(60), 0);
        }
        due(tell(x, "w40;"), -2000);
        due(tell(x, "w39;w01;"), -2004);
        due(x.count(2), 960);
        due(tell(x, "w39;"), 1);
        due(x.count(2), 999);
        due(tell(x, "w01;"), -2000);
        for (int what = 11; what <= 16; what++) {
            due(x.count(what), 0);
        }
    }

    private static void keeperOf() {
        promise = 4;
        OnlyTwoEnemies x = six();
        int[][] all = {{0, 4, 0, 1, 0, 5}, {1, 3, 0, 0, 1, 8}, {2, 9, 1, 2, 0, 5}, {3, 5, 1, 3, 0, 0}, {4, 8, 2, 0, 3, 17},
            {5, 2, 2, 3, 0, 2}};
        for (int keeper = 0; keeper < 6; keeper++) {
            for (int what = 0; what < 6; what++) {
                due(x.keeperOf(keeper, what), all[keeper][what]);
            }
        }
        due(x.keeperOf(6, 0), -1);
        due(x.keeperOf(-1, 9), -1);
        due(x.keeperOf(0, 6), -2);
        due(x.keeperOf(5, -1), -2);
        due(x.count(11), 2);
        due(x.count(12), 2);
        OnlyTwoEnemies y = told("k300;k340;k390;k400;k430;k440;");
        int[] fades = {1, 3, 5, 0, 0, 0};
        int[] stirs = {0, 0, 0, 1, 1, 2};
        int[] pay = {0, 0, 0, 1, 7, 9};
        for (int keeper = 0; keeper < 6; keeper++) {
            due(y.keeperOf(keeper, 3), fades[keeper]);
            due(y.keeperOf(keeper, 4), stirs[keeper]);
            due(y.keeperOf(keeper, 5), pay[keeper]);
        }
    }

    private static void letterOf() {
        promise = 5;
        OnlyTwoEnemies x = told("k000;k000;k000;h0130;h0225;h1225;l200;l260;l310;l301;l023;");
        due(x.letterOf(0, 0), 20);
        due(x.letterOf(0, 1), 0);
        due(x.letterOf(0, 2), 0);
        due(x.letterOf(0, 3), 2);
        due(x.letterOf(1, 3), 1);
        due(x.letterOf(2, 3), -9);
        due(x.letterOf(3, 1), 1);
        due(x.letterOf(3, 3), -9);
        due(x.letterOf(4, 0), 2);
        x.seals(0);
        due(x.letterOf(0, 2), 1);
        due(x.letterOf(0, 3), 2);
        x.hates(1, 2, 20);
        due(x.letterOf(0, 3), 12);
        x.goes(2, 1);
        due(x.letterOf(0, 3), 1);
        x.goes(1, 1);
        due(x.letterOf(0, 3), -9);
        due(x.letterOf(5, 0), -1);
        due(x.letterOf(-1, 9), -1);
        due(x.letterOf(0, 4), -2);
        due(x.letterOf(0, -1), -2);
        due(x.count(11), 2);
        due(x.count(12), 2);
    }

    private static void hate() {
        promise = 6;
        OnlyTwoEnemies x = six();
        due(x.hate(0, 1), 20);
        due(x.hate(5, 4), 20);
        x.hates(4, 2, 77);
        due(x.hate(2, 4), 77);
        due(x.hate(4, 2), 77);
        due(x.hate(2, 5), 20);
        due(x.hate(2, 2), -1);
        due(x.hate(6, 0), -1);
        due(x.hate(0, 6), -1);
        due(x.hate(-1, 0), -1);
        due(x.hate(0, -1), -1);
        due(x.count(11), 5);
    }

    private static void keeper() {
        promise = 7;
        OnlyTwoEnemies x = new OnlyTwoEnemies();
        due(x.keeper(6, -1, 9), -2);
        due(x.keeper(-1, 0, 0), -2);
        due(x.keeper(0, -1, 9), -4);
        due(x.keeper(0, 10, 9), -6);
        due(x.keeper(0, 0, 4), -1);
        due(x.keeper(0, 0, -1), -1);
        due(x.count(0), 0);
        due(x.keeper(5, 9, 3), 0);
        due(x.keeper(0, 0, 0), 1);
        due(x.keeperOf(0, 0), 5);
        due(x.keeperOf(0, 1), 9);
        due(x.keeperOf(0, 2), 3);
        due(x.hate(0, 1), 20);
        x.hates(0, 1, 3);
        due(x.count(7), 1);
        due(x.keeper(0, 0, 4), -1);
        due(x.count(7), 1);
        due(x.keeper(1, 1, 1), 2);
        due(x.count(7), 0);
        due(x.hate(2, 0), 20);
        due(x.hate(0, 1), 3);
        for (int i = 3; i < 6; i++) {
            due(x.keeper(0, 0, 0), i);
        }
        due(x.keeper(0, 0, 9), -6);
        due(x.keeper(0, -1, 0), -4);
        due(x.keeper(7, 0, 0), -2);
        due(x.count(0), 6);
        due(x.count(11), 3);
        due(x.count(12), 3);
        due(x.count(14), 2);
        due(x.count(16), 2);
    }

    private static void letter() {
        promise = 8;
        OnlyTwoEnemies x = pair();
        due(x.letter(4, -1), -1);
        due(x.letter(-1, 0), -1);
        due(x.letter(0, -1), -4);
        due(x.letter(0, 100), -6);
        due(x.letter(3, 99), 0);
        due(x.letterOf(0, 0), 99);
        due(x.letterOf(0, 1), 3);
        due(x.letterOf(0, 2), 0);
        x.hates(0, 1, 3);
        due(x.letter(0, -1), -4);
        due(x.count(7), 1);
        due(x.letter(0, 0), 1);
        due(x.count(7), 0);
        for (int i = 2; i < 6; i++) {
            due(x.letter(1, i), i);
        }
        due(x.letter(0, 0), -6);
        due(x.letter(0, -1), -4);
        due(x.letter(4, 0), -1);
        due(x.count(1), 6);
        due(x.count(11), 3);
        due(x.count(14), 3);
        due(x.count(16), 2);
    }

    private static void hates() {
        promise = 9;
        OnlyTwoEnemies x = pair();
        due(x.hates(0, 1, 99), 20);
        due(x.hates(1, 0, 0), 99);
        due(x.hates(0, 1, 0), 0);
        due(x.count(7), 3);
        due(x.hates(0, 0, 5), -1);
        due(x.hates(0, 2, -1), -1);
        due(x.hates(2, 0, 5), -1);
        due(x.hates(0, 1, -1), -4);
        due(x.hates(0, 1, 100), -6);
        due(x.hate(0, 1), 0);
        due(x.count(7), 3);
        due(x.count(11), 3);
        due(x.count(14), 1);
        due(x.count(16), 1);
    }

    private static void goes() {
        promise = 10;
        OnlyTwoEnemies x = pair();
        due(x.goes(0, 3), 0);
        due(x.goes(0, 3), 3);
        due(x.keeperOf(0, 2), 3);
        due(x.keeperOf(1, 2), 0);
        due(x.count(7), 2);
        due(x.goes(2, 0), -1);
        due(x.goes(-1, 0), -1);
        due(x.goes(0, 4), -1);
        due(x.goes(0, -1), -1);
        due(x.keeperOf(0, 2), 3);
        due(x.count(7), 2);
        due(x.count(11), 4);
    }

    private static void seals() {
        promise = 11;
        OnlyTwoEnemies x = told("l000;l000;");
        due(x.seals(1), 1);
        due(x.count(3), 2);
        due(x.seals(0), 1);
        due(x.seals(1), 0);
        due(x.count(3), 1);
        due(x.count(7), 3);
        due(x.seals(2), -1);
        due(x.seals(-1), -1);
        due(x.count(3), 1);
        due(x.count(7), 3);
        due(x.count(11), 2);
    }

    private static void weeks() {
        promise = 12;
        OnlyTwoEnemies x = six();
        due(x.count(4), 300);
        due(x.weeks(1), 0);
        due(x.count(2), 1);
        int[][] all = {{19, 20, 20, 23, 20}, {21, 21, 24, 21}, {15, 23, 20}, {23, 20}, {17}};
        for (int one = 0; one < 5; one++) {
            for (int other = one + 1; other < 6; other++) {
                due(x.hate(one, other), all[one][other - one - 1]);
            }
        }
        due(x.count(4), 307);
        due(x.weeks(60), 0);
        due(x.hate(2, 3), 0);
        due(x.hate(1, 4), 99);
        due(x.hate(0, 2), 20);
        due(x.weeks(0), -4);
        due(x.weeks(-5), -4);
        due(x.weeks(61), -6);
        for (int i = 0; i < 15; i++) {
            due(x.weeks(60), 0);
        }
        due(x.count(2), 961);
        due(x.weeks(39), -6);
        due(x.weeks(38), 0);
        due(x.count(2), 999);
        due(x.weeks(1), -6);
        due(x.weeks(0), -4);
        due(x.count(14), 3);
        due(x.count(16), 3);
        due(x.count(7), 8);
    }

    private static void weeksOpen() {
        promise = 12;
        // Hatred 19 in the week opens 15, is 14 then, opens 14, is 9 then.
        OnlyTwoEnemies x = told("k040;k130;l150;l200;l140;l100;l091;");
        due(x.weeks(1), 2);
        due(x.count(3), 5);
        due(x.hate(0, 1), 9);
        due(x.weeks(1), 2);
        due(x.hate(0, 1), 8);
        // What is OPEN takes no hatred more.
        OnlyTwoEnemies y = told("k040;k130;l150;l140;s0;");
        due(y.weeks(1), 2);
        due(y.hate(0, 1), 14);
        // Hatred is not less than 0, and none at all opens a DEPTH of 0.
        OnlyTwoEnemies z = told("k000;k000;h0103;l010;l000;l000;");
        due(z.weeks(1), 3);
        due(z.hate(0, 1), 0);
        // The two who hate each other least of those who hate enough.
        OnlyTwoEnemies v = told("k100;k100;k100;h0140;h0230;h1230;l250;l250;l250;l400;");
        due(v.weeks(1), 4);
        due(v.hate(0, 1), 35);
        due(v.hate(0, 2), 20);
        due(v.hate(1, 2), 25);
        // A letter of another town is not opened.
        OnlyTwoEnemies u = told("k100;k100;l001;");
        due(u.weeks(60), 0);
        due(u.hate(0, 1), 20);
    }

    private static void back() {
        promise = 13;
        OnlyTwoEnemies x = told("k040;k130;l150;");
        due(x.back(), -3);
        x.hates(0, 1, 30);
        x.goes(1, 2);
        x.goes(1, 0);
        x.seals(0);
        x.seals(0);
        x.weeks(5);
        due(x.count(2), 5);
        due(x.hate(0, 1), 20);
        due(x.back(), 5);
        due(x.count(2), 0);
        due(x.count(3), 0);
        due(x.hate(0, 1), 30);
        due(x.back(), 4);
        due(x.count(3), 1);
        due(x.back(), 3);
        due(x.count(3), 0);
        due(x.back(), 2);
        due(x.keeperOf(1, 2), 2);
        due(x.back(), 1);
        due(x.keeperOf(1, 2), 0);
        due(x.back(), 0);
        due(x.hate(0, 1), 20);
        due(x.back(), -3);
        due(x.count(13), 2);
        for (int i = 0; i < 10; i++) {
            x.hates(0, 1, 50 + i);
            due(x.count(7), Math.min(8, i + 1));
        }
        for (int i = 0; i < 8; i++) {
            due(x.back(), 7 - i);
            due(x.hate(0, 1), 58 - i);
        }
        due(x.back(), -3);
        due(x.hate(0, 1), 51);
        x.hates(0, 1, 51);
        x.image();
        x.row(3);
        x.feed(3);
        x.hates(0, 1, 100);
        due(x.count(7), 1);
        due(x.back(), 0);
        due(x.count(5), 1);
        due(x.count(6), 1);
        due(x.count(16), 1);
    }

    private static void behind() {
        promise = 14;
        OnlyTwoEnemies x = told("k040;k130;k482;l150;");
        due(x.behind(0, 1, 0), 20);
        due(x.behind(0, 1, 1), 14);
        due(x.behind(1, 0, 3), 12);
        due(x.behind(0, 1, 60), 0);
        due(x.behind(1, 2, 60), 99);
        due(x.behind(0, 2, 2), 26);
        due(x.count(2), 0);
        due(x.count(3), 0);
        due(x.hate(0, 1), 20);
        due(x.behind(1, 1, 99), -1);
        due(x.behind(3, 1, 1), -1);
        due(x.behind(0, 3, 1), -1);
        due(x.behind(0, 1, -1), -4);
        due(x.behind(0, 1, 61), -6);
        due(x.count(7), 0);
        OnlyTwoEnemies late = pair();
        for (int i = 0; i < 16; i++) {
            late.weeks(60);
        }
        late.hates(0, 1, 90);
        due(late.behind(0, 1, 60), 30);
    }

    private static void then() {
        promise = 15;
        OnlyTwoEnemies x = told("k040;k130;k482;l150;l140;l993;s2;");
        due(x.then(0, 0), 4);
        due(x.then(0, 1), 60);
        due(x.then(1, 0), 7);
        due(x.then(1, 1), 9 + 23 + 24);
        due(x.then(60, 1), 0 + 99 + 99);
        due(x.count(3), 4);
        due(x.then(-1, 2), -4);
        due(x.then(61, 2), -6);
        due(x.then(0, 2), -2);
        due(x.then(60, -1), -2);
    }

    private static void when() {
        promise = 16;
        OnlyTwoEnemies x = told("k040;k130;k000;h0105;l150;l990;l003;l060;s2;");
        due(x.when(0, 0), 1);
        due(x.when(0, 1), 2);
        due(x.when(1, 0), -9);
        due(x.when(1, 1), -9);
        due(x.when(2, 0), 0);
        due(x.when(2, 1), -9);
        due(x.when(3, 0), 1);
        due(x.when(3, 1), 2);
        x.weeks(1);
        due(x.when(0, 0), 0);
        due(x.when(0, 1), -9);
        due(x.when(4, 5), -1);
        due(x.when(-1, 0), -1);
        due(x.when(0, 2), -2);
        due(x.when(0, -1), -2);
        OnlyTwoEnemies y = told("k000;k100;k100;h1240;l300;");
        due(y.when(0, 1), 12);
    }

    private static void lasts() {
        promise = 17;
        OnlyTwoEnemies x = six();
        due(x.lasts(0, 1, 21), 0);
        due(x.lasts(0, 1, 20), 1);
        due(x.lasts(1, 0, 19), 2);
        due(x.lasts(0, 1, 1), 20);
        due(x.lasts(0, 1, 0), -9);
        due(x.lasts(2, 3, 1), 4);
        due(x.lasts(0, 4, 20), -9);
        due(x.lasts(0, 4, 99), 0);
        x.hates(0, 1, 60);
        due(x.lasts(0, 1, 1), 60);
        x.hates(0, 1, 61);
        due(x.lasts(0, 1, 1), -9);
        due(x.lasts(0, 0, -1), -1);
        due(x.lasts(0, 6, 1), -1);
        due(x.lasts(0, 1, -1), -4);
        due(x.lasts(0, 1, 100), -6);
    }

    private static void never() {
        promise = 18;
        OnlyTwoEnemies x = told("k040;k130;l400;l150;l003;l140;");
        due(x.never(0), 5);
        due(x.never(1), 1);
        x.seals(1);
        due(x.never(0), 5);
        due(x.never(1), 3);
        x.seals(3);
        due(x.never(0), 5);
        due(x.never(1), -9);
        x.seals(0);
        due(x.never(0), 4);
        due(x.never(2), -2);
        due(x.never(-1), -2);
        due(x.count(12), 2);
    }

    private static void insult() {
        promise = 19;
        OnlyTwoEnemies x = told("k040;k130;k290;l300;");
        x.goes(2, 1);
        due(x.insult(0, 1, 0), 11);
        due(x.insult(1, 0, 0), 11);
        due(x.insult(0, 2, 0), -9);
        x.goes(2, 0);
        x.hates(0, 2, 33);
        due(x.insult(0, 1, 0), 11);
        due(x.insult(1, 2, 0), -9);
        due(x.insult(0, 2, 0), 0);
        x.hates(0, 2, 34);
        due(x.insult(1, 2, 0), 12);
        due(x.hate(1, 2), 20);
        x.seals(0);
        due(x.insult(0, 1, 0), -3);
        due(x.insult(0, 1, 1), -1);
        due(x.insult(0, 0, 0), -1);
        due(x.insult(3, 0, 0), -1);
        due(x.insult(0, 3, -1), -1);
        due(x.count(13), 1);
        due(x.count(11), 4);
        OnlyTwoEnemies y = told("k040;k130;l050;l300;l980;l990;");
        // The letter ahead of it takes 5.
        due(y.insult(0, 1, 1), 16);
        due(y.insult(0, 1, 2), -9);
        y.seals(0);
        y.seals(1);
        due(y.insult(0, 1, 2), 79);
        due(y.insult(0, 1, 3), -9);
        y.hates(0, 1, 99);
        due(y.insult(0, 1, 2), 0);
        due(y.insult(0, 1, 3), -9);
        y.hates(0, 1, 0);
        due(y.insult(0, 1, 2), 99);
    }

    private static void send() {
        promise = 20;
        OnlyTwoEnemies x = told("k040;k131;l150;");
        due(x.send(1), 10);
        due(x.send(60), 10);
        due(x.send(0), -9);
        x.letter(1, 15);
        due(x.send(1), 1);
        x.letter(0, 12);
        due(x.send(1), 10);
        x.goes(1, 0);
        due(x.send(1), -9);
        x.goes(0, 2);
        x.goes(1, 3);
        due(x.send(1), -9);
        due(x.send(-1), -4);
        due(x.send(61), -6);
        due(x.keeperOf(0, 2), 2);
        OnlyTwoEnemies y = told("k040;k130;k003;l153;");
        due(y.send(1), 3);
        OnlyTwoEnemies z = told("k040;k130;l150;l001;");
        due(z.send(1), -9);
    }

    private static void places() {
        promise = 21;
        OnlyTwoEnemies x = told("k040;k131;k013;l102;");
        due(x.places(0, 1, 2, 1, 0), 22);
        due(x.places(0, 1, 2, 1, 1), 1);
        due(x.places(0, 1, 2, 0, 0), 0);
        due(x.places(0, 1, 2, 0, 1), 0);
        x.hates(0, 2, 5);
        x.hates(1, 2, 5);
        due(x.places(0, 1, 2, 60, 0), 220);
        due(x.places(2, 1, 0, 60, 0), 22);
        due(x.places(1, 2, 0, 60, 0), 202);
        x.letter(3, 5);
        due(x.places(0, 1, 2, 1, 0), 220);
        due(x.places(0, 1, 2, 1, 1), 1);
        x.keeper(1, 0, 3);
        due(x.places(0, 1, 2, 1, 0), 223);
        due(x.places(0, 1, 2, 1, 1), 2);
        x.seals(0);
        due(x.places(0, 1, 2, 1, 0), 3);
        due(x.places(0, 1, 2, 1, 1), 2);
        OnlyTwoEnemies y = told("k001;k000;k000;k002;l102;h1309;h2309;h0109;h0209;h1209;");
        due(y.places(0, 1, 2, 1, 0), 200);
        due(y.places(1, 0, 2, 1, 0), 20);
        due(y.places(1, 2, 0, 1, 0), 2);
        due(x.places(0, 1, 1, 1, 0), -1);
        due(x.places(0, 1, 0, 1, 0), -1);
        due(x.places(1, 1, 0, 1, 0), -1);
        due(x.places(4, 1, 0, -1, 0), -1);
        due(x.places(0, 4, 2, 1, 0), -1);
        due(x.places(0, 1, -1, 1, 0), -1);
        due(x.places(0, 1, 2, -1, 2), -4);
        due(x.places(0, 1, 2, 61, 2), -6);
        due(x.places(0, 1, 2, 1, 2), -2);
        due(x.places(0, 1, 2, 1, -1), -2);
        due(x.keeperOf(0, 2), 0);
    }

    private static void fewest() {
        promise = 22;
        OnlyTwoEnemies x = told("k040;k130;k291;k351;k521;l101;");
        due(x.fewest(1, 0), 12);
        due(x.fewest(1, 1), 5);
        due(x.fewest(0, 0), 0);
        due(x.fewest(0, 1), 0);
        x.letter(0, 10);
        due(x.fewest(60, 0), 15);
        due(x.fewest(1, 1), 18);
        x.seals(0);
        due(x.fewest(1, 0), 3);
        x.seals(1);
        due(x.fewest(1, 0), 0);
        due(x.fewest(-1, 2), -4);
        due(x.fewest(61, 2), -6);
        due(x.fewest(1, 2), -2);
        due(x.fewest(1, -1), -2);
        due(x.keeperOf(0, 2), 0);
        // Whoever opens one 16 has 15 at most then: the second needs two others.
        OnlyTwoEnemies y = told("k000;k100;k100;k100;l160;l160;");
        due(y.fewest(1, 0), 7);
        due(y.fewest(1, 1), 1 + 2 + 2);
        OnlyTwoEnemies z = told("k000;k500;k100;k100;h0199;h0250;h0350;h1250;h1350;h2320;l150;l150;");
        due(z.fewest(1, 0), 3);
    }

    /** Whose hatreds and letters are such that some of them open more than all. */
    private static OnlyTwoEnemies brothers(int many, int[] hates, int... depths) {
        OnlyTwoEnemies x = new OnlyTwoEnemies();
        for (int i = 0; i < many; i++) {
            x.keeper(1, i, 0);
        }
        int place = 0;
        for (int one = 0; one < many; one++) {
            for (int other = one + 1; other < many; other++) {
                x.hates(one, other, hates[place++]);
            }
        }
        for (int depth : depths) {
            x.letter(0, depth);
        }
        return x;
    }

    private static void fewestOpenMore() {
        promise = 22;
        // All open 4 of 5; of those of three only 0, 1, 2 open as many: all 5.
        OnlyTwoEnemies x = brothers(4, new int[] {3, 6, 4, 7, 0, 0}, 4, 1, 6, 2, 3);
        due(x.fewest(1, 0), 7);
        due(x.fewest(1, 1), 2 + 4 + 6);
        due(x.fewest(60, 0), 7);
        due(x.fewest(0, 0), 0);
        due(x.then(1, 0), 15);
        untouched(x, 4, 5, 20, 0);
        // All open 5 of 6; 0, 2, 3, 4 all of them, others of four fewer than 5.
        OnlyTwoEnemies y = brothers(5, new int[] {0, 1, 7, 4, 0, 6, 1, 0, 8, 4}, 6, 2, 6, 3, 4, 4);
        due(y.fewest(1, 0), 29);
        due(y.fewest(1, 1), 2 + 6 + 8 + 10);
        // All open 5 of 6; 0, 1, 2, 3 all of them, and behind these 0, 2, 3, 4 as many as all.
        OnlyTwoEnemies more = brothers(5, new int[] {14, 7, 12, 13, 0, 7, 1, 15, 0, 8}, 13, 9, 13, 5, 10, 11);
        due(more.fewest(1, 0), 15);
        due(more.fewest(1, 1), 2 + 4 + 6 + 8);
        // The same with other numbers: first 0, 2, 3, 4 as many as all, and behind these 1, 2, 3, 4 all 6.
        OnlyTwoEnemies same = brothers(5, new int[] {1, 13, 0, 8, 14, 0, 7, 7, 12, 15}, 13, 9, 13, 5, 10, 11);
        due(same.fewest(1, 0), 29);
        due(same.fewest(1, 1), 2 + 6 + 8 + 10);
    }

    private static void pay() {
        promise = 23;
        OnlyTwoEnemies x = six();
        due(x.pay(-1, 1), 37);
        due(x.pay(-1, 60), 2220);
        due(x.pay(0, 2), 26);
        due(x.pay(1, 3), 15);
        due(x.pay(2, 1), 19);
        due(x.pay(3, 60), 0);
        due(x.pay(-1, 0), 0);
        due(x.pay(-2, -1), -1);
        due(x.pay(4, 1), -1);
        due(x.pay(-1, -1), -4);
        due(x.pay(0, 61), -6);
    }

    private static void deepest() {
        promise = 24;
        OnlyTwoEnemies x = told("k000;k000;k000;k001;h0220;h0121;h1219;h0399;");
        due(x.deepest(0), 21);
        due(x.deepest(1), -9);
        due(x.deepest(2), -9);
        x.goes(3, 0);
        due(x.deepest(0), 99);
        x.goes(2, 3);
        x.goes(1, 3);
        x.hates(1, 2, 0);
        due(x.deepest(3), 0);
        due(x.deepest(4), -1);
        due(x.deepest(-1), -1);
        due(x.count(11), 2);
    }

    private static void pairs() {
        promise = 25;
        OnlyTwoEnemies x = told("k000;k000;k000;k000;h0150;h0250;h1350;h2310;");
        due(x.pairs(50), 2);
        due(x.pairs(51), 0);
        due(x.pairs(11), 2);
        x.goes(3, 1);
        due(x.pairs(50), 1);
        x.keeper(0, 0, 0);
        due(x.pairs(0), 2);
        x.goes(3, 0);
        due(x.pairs(0), 2);
        x.keeper(0, 0, 0);
        due(x.pairs(0), 3);
        x.hates(4, 5, 99);
        due(x.pairs(99), 1);
        due(x.pairs(-1), -4);
        due(x.pairs(100), -6);
    }

    private static void worst() {
        promise = 26;
        OnlyTwoEnemies x = six();
        due(x.worst(0), 1);
        due(x.worst(1), 20);
        due(x.worst(2), 0);
        x.hates(4, 3, 99);
        x.hates(5, 2, 99);
        due(x.worst(0), 25);
        due(x.worst(1), 99);
        x.hates(0, 1, 0);
        x.hates(0, 5, 0);
        due(x.worst(2), 2);
        due(x.worst(3), -2);
        due(x.worst(-1), -2);
        OnlyTwoEnemies y = told("k000;");
        due(y.worst(0), -9);
        due(y.worst(1), -9);
        due(y.worst(2), 0);
        y.keeper(0, 0, 1);
        y.hates(0, 1, 0);
        due(y.worst(0), 1);
        due(y.worst(1), 0);
        due(y.worst(2), 1);
    }

    private static void whoHates() {
        promise = 27;
        OnlyTwoEnemies x = told("k040;k130;l150;l120;");
        due(x.whoHates(0, 1, 0), 100);
        due(x.whoHates(0, 1, 1), 0);
        due(x.whoHates(0, 1, 2), 99);
        x.row(0);
        x.row(1);
        due(x.whoHates(0, 1, 0), 5);
        due(x.whoHates(1, 0, 1), 13);
        due(x.whoHates(0, 1, 2), 17);
        due(x.count(6), 2);
        x.row(2);
        due(x.whoHates(0, 1, 0), 0);
        due(x.whoHates(0, 1, 1), -9);
        due(x.whoHates(0, 1, 2), -9);
        x.clear();
        x.row(0);
        x.row(0);
        due(x.whoHates(0, 1, 0), 13);
        due(x.whoHates(0, 1, 1), 0);
        due(x.whoHates(0, 1, 2), 12);
        x.clear();
        x.row(1);
        due(x.whoHates(0, 1, 0), 0);
        x.seals(1);
        due(x.whoHates(0, 1, 0), 100);
        x.row(2);
        due(x.whoHates(0, 1, 1), 16);
        due(x.hate(0, 1), 20);
        due(x.whoHates(0, 0, 9), -1);
        due(x.whoHates(0, 2, 0), -1);
        due(x.whoHates(0, 1, 3), -2);
        due(x.whoHates(0, 1, -1), -2);
    }

    private static void rowOf(OnlyTwoEnemies x, int... numbers) {
        x.clear();
        for (int v : numbers) {
            x.row(v);
        }
    }

    private static void whatKind() {
        promise = 28;
        OnlyTwoEnemies x = pair();
        due(x.whatKind(0, 1, 0), 63);
        due(x.whatKind(0, 1, 1), 1023);
        rowOf(x, 20, 19, 18);
        due(x.whatKind(0, 1, 0), 1);
        due(x.whatKind(0, 1, 1), 1023);
        due(x.whatKind(1, 0, 0), 2 + 16);
        rowOf(x, 20, 20);
        due(x.whatKind(0, 1, 0), 2 + 16);
        due(x.whatKind(0, 1, 1), 0);
        rowOf(x, 20, 18, 16);
        due(x.whatKind(0, 1, 0), 4);
        rowOf(x, 20, 17);
        due(x.whatKind(0, 1, 0), 8 + 32);
        rowOf(x, 21);
        due(x.whatKind(0, 1, 0), 0);
        due(x.count(6), 1);
        OnlyTwoEnemies lover = told("k370;k130;");
        rowOf(lover, 20, 17);
        due(lover.whatKind(0, 1, 0), 32);
        due(lover.whatKind(0, 1, 1), 16 + 32);
        OnlyTwoEnemies son = told("k440;k001;");
        rowOf(son, 20, 23, 26);
        due(son.whatKind(0, 1, 1), 256 + 512);
        due(son.whatKind(0, 1, 0), 0);
        rowOf(son, 20, 22);
        due(son.whatKind(0, 1, 0), 16);
        due(son.whatKind(0, 1, 1), 16 + 32 + 64 + 128);
        due(son.keeperOf(0, 1), 4);
        due(son.whatKind(0, 0, 9), -1);
        due(son.whatKind(2, 0, 0), -1);
        due(son.whatKind(0, 1, 2), -2);
        due(son.whatKind(0, 1, -1), -2);
        due(son.count(6), 2);
    }

    private static void jug() {
        promise = 29;
        OnlyTwoEnemies x = new OnlyTwoEnemies();
        fraction(x.jug(2, 1, 2, 0), x.jug(2, 1, 2, 1), 3, 4);
        fraction(x.jug(3, 2, 6, 0), x.jug(3, 2, 6, 1), 2, 27);
        fraction(x.jug(0, 0, 2, 0), x.jug(0, 0, 2, 1), 1, 1);
        fraction(x.jug(0, 1, 2, 0), x.jug(0, 1, 2, 1), 0, 1);
        fraction(x.jug(3, 4, 2, 0), x.jug(3, 4, 2, 1), 0, 1);
        fraction(x.jug(8, 8, 20, 0), x.jug(8, 8, 20, 1), 1, 25600000000L);
        fraction(x.jug(8, 0, 20, 0), x.jug(8, 0, 20, 1), 1, 1);
        fraction(x.jug(8, 1, 20, 0), x.jug(8, 1, 20, 1), 25600000000L - 16983563041L, 25600000000L);
        due(x.jug(-1, 9, 21, 2), LONG + 4);
        due(x.jug(9, -1, 2, 0), LONG + 4);
        due(x.jug(9, 0, 1, 0), LONG + 4);
        due(x.jug(9, 0, 2, 2), LONG + 6);
        due(x.jug(0, 9, 2, 0), LONG + 6);
        due(x.jug(0, 0, 21, 0), LONG + 6);
        due(x.jug(0, 0, 20, 2), LONG + 2);
        due(x.jug(0, 0, 20, -1), LONG + 2);
        due(x.count(14), 3);
        due(x.count(16), 3);
        due(x.count(12), 2);
    }

    private static void fraction(long above, long below, long dueAbove, long dueBelow) {
        if (above != dueAbove || below != dueBelow) {
            wrong++;
            System.out.println("promise " + promise + ": " + above + "/" + below + ", due is " + dueAbove + "/" + dueBelow);
        }
    }

    private static void two() {
        promise = 30;
        // Alone nobody gains by making it up, so that neither does stands first, whatever they hate.
        OnlyTwoEnemies x = six();
        due(x.two(0, 1), 0);
        due(x.two(5, 2), 0);
        x.hates(0, 1, 99);
        due(x.two(1, 0), 0);
        x.hates(0, 1, 0);
        due(x.two(0, 1), 0);
        due(x.hate(0, 1), 0);
        due(x.two(0, 0), -1);
        due(x.two(0, 6), -1);
        due(x.two(-1, 0), -1);
        due(x.count(11), 3);
        due(x.count(7), 2);
    }

    private static void meetings() {
        promise = 31;
        OnlyTwoEnemies x = told("k040;k130;k001;l150;l080;");
        fraction(x.meetings(0, 1, 0, 1, 4, 0), x.meetings(0, 1, 0, 1, 4, 1), 3, 4);
        fraction(x.meetings(0, 1, 0, 2, 4, 0), x.meetings(1, 0, 0, 2, 4, 1), 3, 4);
        fraction(x.meetings(0, 1, 0, 7, 20, 0), x.meetings(0, 1, 0, 7, 20, 1), 19, 20);
        fraction(x.meetings(0, 1, 1, 1, 4, 0), x.meetings(0, 1, 1, 1, 4, 1), 1, 1);
        fraction(x.meetings(0, 2, 0, 3, 4, 0), x.meetings(0, 2, 0, 3, 4, 1), 1, 1);
        fraction(x.meetings(0, 1, 0, 0, 2, 0), x.meetings(0, 1, 0, 0, 2, 1), 0, 1);
        x.seals(0);
        fraction(x.meetings(0, 1, 0, 0, 2, 0), x.meetings(0, 1, 0, 0, 2, 1), 1, 1);
        x.seals(0);
        x.hates(0, 1, 10);
        fraction(x.meetings(0, 1, 0, 5, 2, 0), x.meetings(0, 1, 0, 5, 2, 1), 0, 1);
        fraction(x.meetings(0, 1, 1, 1, 3, 0), x.meetings(0, 1, 1, 1, 3, 1), 2, 3);
        x.hates(0, 1, 26);
        fraction(x.meetings(0, 1, 0, 1, 3, 0), x.meetings(0, 1, 0, 1, 3, 1), 1, 1);
        x.hates(0, 1, 25);
        fraction(x.meetings(0, 1, 0, 1, 3, 0), x.meetings(0, 1, 0, 1, 3, 1), 2, 3);
        x.hates(0, 1, 10);
        OnlyTwoEnemies mild = told("k040;k130;h0105;l000;");
        fraction(mild.meetings(0, 1, 0, 1, 3, 0), mild.meetings(0, 1, 0, 1, 3, 1), 1, 1);
        due(x.meetings(0, 0, 0, -1, 1, 2), LONG + 1);
        due(x.meetings(0, 3, 0, 1, 2, 0), LONG + 1);
        due(x.meetings(0, 1, 2, 1, 2, 0), LONG + 1);
        due(x.meetings(0, 1, 0, -1, 21, 2), LONG + 4);
        due(x.meetings(0, 1, 0, 8, 1, 2), LONG + 4);
        due(x.meetings(0, 1, 0, 8, 2, 2), LONG + 6);
        due(x.meetings(0, 1, 0, 7, 21, 2), LONG + 6);
        due(x.meetings(0, 1, 0, 7, 20, 2), LONG + 2);
        due(x.meetings(0, 1, 0, 7, 20, -1), LONG + 2);
        due(x.hate(0, 1), 10);
        due(x.count(11), 3);
    }

    private static void fullest() {
        promise = 32;
        OnlyTwoEnemies x = new OnlyTwoEnemies();
        due(x.fullest(0), 0);
        due(x.fullest(1), 0);
        tell(x, "k003;k002;k003;k002;");
        due(x.fullest(0), 2);
        due(x.fullest(1), 2);
        x.goes(1, 3);
        due(x.fullest(0), 3);
        due(x.fullest(1), 3);
        OnlyTwoEnemies y = told("k001;k001;k002;k003;");
        due(y.fullest(0), 1);
        due(y.fullest(1), 2);
        y.goes(2, 0);
        y.goes(3, 0);
        due(y.fullest(0), 0);
        due(y.fullest(1), 2);
        due(x.fullest(2), -2);
        due(x.fullest(-1), -2);
        due(x.count(12), 2);
    }

    private static void thickest() {
        promise = 33;
        OnlyTwoEnemies x = told("l000;");
        due(x.thickest(), 0);
        tell(x, "l501;l702;l703;l990;s4;");
        due(x.thickest(), 2);
        x.seals(2);
        due(x.thickest(), 3);
        x.seals(3);
        due(x.thickest(), 1);
        x.seals(1);
        x.seals(0);
        due(x.thickest(), -9);
        due(new OnlyTwoEnemies().thickest(), -9);
    }

    private static void mildest() {
        promise = 34;
        OnlyTwoEnemies x = new OnlyTwoEnemies();
        due(x.mildest(), -9);
        tell(x, "k000;");
        due(x.mildest(), 0);
        tell(x, "k001;k002;k003;");
        due(x.mildest(), 0);
        x.hates(0, 3, 30);
        due(x.mildest(), 1);
        x.hates(2, 1, 19);
        due(x.mildest(), 1);
        x.hates(2, 3, 9);
        due(x.mildest(), 2);
        x.hates(0, 3, 0);
        due(x.mildest(), 3);
    }

    private static void bare() {
        promise = 35;
        OnlyTwoEnemies x = told("k000;k000;k001;l000;l001;l002;l003;s3;");
        due(x.bare(), 2 + 4);
        x.goes(1, 1);
        due(x.bare(), 1 + 4);
        x.seals(0);
        due(x.bare(), 4);
        x.seals(3);
        due(x.bare(), 4 + 8);
        due(new OnlyTwoEnemies().bare(), 0);
    }

    private static void mean() {
        promise = 36;
        OnlyTwoEnemies x = told("k000;");
        fraction(x.mean(0), x.mean(1), 0, 1);
        tell(x, "k001;k002;h0121;");
        fraction(x.mean(0), x.mean(1), 61, 3);
        tell(x, "h0120;");
        fraction(x.mean(0), x.mean(1), 20, 1);
        tell(x, "h0100;h0200;h1200;");
        fraction(x.mean(0), x.mean(1), 0, 1);
        tell(x, "k000;k000;k000;h5405;");
        fraction(x.mean(0), x.mean(1), 15, 1);
        tell(x, "h5406;");
        fraction(x.mean(0), x.mean(1), 226, 15);
        due(x.mean(2), LONG + 2);
        due(x.mean(-1), LONG + 2);
        due(x.count(12), 2);
    }

    private static void used() {
        promise = 37;
        OnlyTwoEnemies x = told("k040;k130;k482;l150;");
        due(x.used(0, 1, 0), 0);
        due(x.used(0, 1, 1), 6);
        due(x.used(1, 0, 60), 20);
        due(x.used(0, 2, 1), -3);
        due(x.used(1, 2, 60), -79);
        due(x.used(0, 0, -1), 1000000001);
        due(x.used(0, 3, 1), 1000000001);
        due(x.used(0, 1, -1), 1000000004);
        due(x.used(0, 1, 61), 1000000006);
        due(x.count(11), 2);
        due(x.count(14), 1);
        due(x.count(16), 1);
    }

    private static void swap() {
        promise = 38;
        OnlyTwoEnemies x = told("k040;k131;k000;h0200;l150;");
        due(x.swap(1), 1);
        due(x.swap(0), -9);
        x.hates(1, 2, 0);
        due(x.swap(1), 12);
        x.hates(0, 1, 0);
        due(x.swap(60), -9);
        x.hates(0, 2, 50);
        x.hates(0, 1, 60);
        due(x.swap(1), -9);
        due(x.swap(-1), -4);
        due(x.swap(61), -6);
        due(x.keeperOf(0, 2), 0);
        OnlyTwoEnemies more = told("k000;k001;k102;k103;h0320;h1230;h1340;l192;l182;h0200;h0300;");
        // 0 and 2 would open none together; 1 with 3 opens both, 1 with 2 too, but none is alone with another by one change.
        due(more.swap(1), -9);
        more.goes(3, 2);
        more.hates(2, 3, 0);
        due(more.swap(1), 12);
        OnlyTwoEnemies far = told("k000;k000;k000;k001;h0100;h0200;h1200;h0300;h1300;h2300;l100;");
        due(far.swap(1), -9);
        far.hates(0, 3, 12);
        due(far.swap(1), 13);
    }

    private static void apart() {
        promise = 39;
        OnlyTwoEnemies x = told("k040;k130;l150;l140;l990;");
        due(x.apart(0), 0);
        due(x.apart(1), 0);
        due(x.apart(5), 4);
        due(x.apart(60), 59);
        x.seals(0);
        x.seals(1);
        due(x.apart(60), 60);
        due(x.apart(-1), -4);
        due(x.apart(61), -6);
    }

    private static void enemy() {
        promise = 40;
        OnlyTwoEnemies x = told("k000;");
        due(x.enemy(0), -9);
        tell(x, "k001;k002;k003;");
        due(x.enemy(0), 1);
        due(x.enemy(3), 0);
        x.hates(3, 0, 21);
        x.hates(0, 2, 21);
        due(x.enemy(0), 2);
        due(x.enemy(3), 0);
        x.hates(3, 1, 22);
        due(x.enemy(3), 1);
        x.hates(1, 0, 0);
        x.hates(2, 0, 0);
        x.hates(3, 0, 0);
        due(x.enemy(0), 1);
        due(x.enemy(4), -1);
        due(x.enemy(-1), -1);
        due(x.count(11), 2);
    }

    private static void can() {
        promise = 41;
        OnlyTwoEnemies x = told("k000;k000;k003;k003;k001;h0140;h2330;h0499;");
        due(x.can(30), 1 + 8);
        due(x.can(31), 1);
        due(x.can(40), 1);
        due(x.can(41), 0);
        due(x.can(0), 1 + 8);
        x.hates(2, 3, 0);
        due(x.can(0), 1 + 8);
        due(x.can(1), 1);
        x.goes(4, 0);
        due(x.can(99), 1);
        due(x.can(-1), -4);
        due(x.can(100), -6);
    }

    private static void row() {
        promise = 42;
        OnlyTwoEnemies x = new OnlyTwoEnemies();
        due(x.row(-1), -4);
        due(x.row(100), -6);
        due(x.row(0), 1);
        due(x.row(99), 2);
        for (int i = 3; i <= 12; i++) {
            due(x.row(i), i);
        }
        due(x.row(5), -6);
        due(x.row(-1), -4);
        due(x.count(6), 12);
        due(x.count(14), 2);
        due(x.count(16), 2);
    }

    private static void judge() {
        promise = 43;
        OnlyTwoEnemies x = told("k000;k001;k002;h0133;h1244;");
        due(x.judge(0), -9);
        rowOf(x, 33, 0, 44);
        due(x.judge(1), -9);
        due(x.count(6), 0);
        rowOf(x, 33, 0);
        due(x.judge(1), -9);
        rowOf(x, 33, 1, 44);
        due(x.judge(1), 1);
        due(x.count(6), 0);
        rowOf(x, 33, 0, 44, 0);
        due(x.judge(1), 3);
        rowOf(x, 0, 33, 21);
        due(x.judge(0), 2);
        rowOf(x, 33, 0, 44);
        due(x.judge(3), -1);
        due(x.judge(-1), -1);
        due(x.count(6), 3);
        due(x.judge(0), 0);
        due(x.count(11), 2);
    }

    private static void clear() {
        promise = 44;
        OnlyTwoEnemies x = new OnlyTwoEnemies();
        due(x.clear(), 0);
        rowOf(x, 1, 2, 3);
        due(x.clear(), 3);
        due(x.count(6), 0);
        due(x.clear(), 0);
        due(x.row(7), 1);
    }

    private static void lots() {
        promise = 45;
        // The draws below 60 of seed 5 are 55, 57, 56; of seed 0, 0, 48, 28; of seed -1, 29, 29.
        OnlyTwoEnemies x = told("k040;k130;l300;");
        due(x.lots(1, 5, 0), 1);
        due(x.lots(1, 5, 1), 40);
        due(x.lots(2, 5, 0), 2);
        due(x.lots(2, 5, 1), 82);
        due(x.lots(3, 0, 0), 1);
        due(x.lots(3, 0, 1), 0 + 33 + 18);
        due(x.lots(2, -1, 1), 38);
        due(x.lots(2, Integer.MIN_VALUE, 1), 33);
        x.seals(0);
        due(x.lots(2, 5, 0), 0);
        due(x.lots(2, 5, 1), 45 + 47);
        due(x.hate(0, 1), 20);
        due(x.lots(0, 5, 2), -4);
        due(x.lots(21, 5, 2), -6);
        due(x.lots(20, 5, 2), -2);
        due(x.lots(20, 5, -1), -2);
        // Of three, 0 and 2 have the second draw.
        OnlyTwoEnemies y = told("k000;k001;k000;l550;");
        due(y.lots(1, 5, 0), 1);
        due(y.lots(1, 5, 1), 55 + (57 - 20 - 5) + 56);
        y.goes(0, 1);
        due(y.lots(1, 5, 0), 0);
        due(y.lots(1, 5, 1), 35 + 57 + 56);
    }

    private static void image() {
        promise = 46;
        OnlyTwoEnemies x = pair();
        due(x.image(), 0);
        x.weeks(7);
        due(x.image(), 7);
        due(x.count(7), 1);
        x.hates(0, 1, 99);
        due(x.restore(), 7);
        due(x.hate(0, 1), 13);
    }

    private static void restore() {
        promise = 47;
        OnlyTwoEnemies x = told("k040;k130;l150;");
        due(x.restore(), -3);
        due(x.count(13), 1);
        x.hates(0, 1, 44);
        due(x.restore(), -3);
        due(x.count(7), 1);
        x.image();
        x.weeks(3);
        x.keeper(1, 1, 1);
        x.letter(1, 1);
        x.goes(0, 3);
        x.feed('k');
        x.row(9);
        due(x.restore(), 0);
        untouched(x, 2, 1, 44, 0);
        due(x.count(2), 0);
        due(x.count(3), 0);
        due(x.keeperOf(0, 2), 0);
        due(x.count(5), 1);
        due(x.count(6), 1);
        due(x.count(13), 2);
        x.seals(0);
        x.hates(0, 1, 1);
        due(x.restore(), 0);
        due(x.hate(0, 1), 44);
        due(x.count(3), 0);
        due(x.keeper(1, 1, 1), 2);
        due(x.hate(0, 2), 20);
        due(x.back(), -3);
    }

    private static void count() {
        promise = 48;
        OnlyTwoEnemies x = told("k040;k130;k002;l150;l993;l001;w02;");
        x.feed(1);
        x.row(1);
        x.row(1);
        x.hates(0, 1, 5);
        x.keeperOf(9, 0);
        x.keeperOf(0, 9);
        x.restore();
        x.can(-1);
        x.can(100);
        x.can(100);
        // 0 and 1: 20, 19, opened, 14, 13, told 5; 0 and 2: 20; 1 and 2: 22.
        int[] all = {3, 3, 2, 1, 47, 1, 2, 1, -9, -9, -9, 1, 1, 1, 1, 0, 2, -9};
        for (int what = 0; what < all.length; what++) {
            due(x.count(what), all[what]);
        }
        due(x.count(-1), -9);
        due(x.count(Integer.MIN_VALUE), -9);
        due(x.count(Integer.MAX_VALUE), -9);
        due(x.count(12), 1);
    }
}
