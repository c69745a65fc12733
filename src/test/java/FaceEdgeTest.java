/** The edges of each call of the face: its least and greatest arguments and answers, promise by promise. */
public final class FaceEdgeTest extends Edges {
    private static final String SIX_BROTHERS = "k100;k100;k100;k100;k100;k100;";
    private static final String SIX_LETTERS = "l000;l000;l000;l000;l000;l000;";

    public static void main(String[] args) {
        all();
        end("the edges of the face hold");
    }

    static void all() {
        keeperOf();
        letterOf();
        hate();
        keeper();
        letter();
        hates();
        goes();
        seals();
        weeks();
        when();
        lasts();
        never();
        insult();
        send();
        places();
        fewest();
        pay();
        deepest();
        pairs();
        worst();
        jug();
        two();
        meetings();
        fullest();
        thickest();
        mildest();
        bare();
        mean();
        used();
        swap();
        apart();
        enemy();
        can();
        lots();
    }

    /** What all whats from 0 on answer for one. */
    private static void keeperIs(OnlyTwoEnemies x, int keeper, int... answers) {
        for (int what = 0; what < answers.length; what++) {
            due(x.keeperOf(keeper, what), answers[what]);
        }
    }

    private static void letterIs(OnlyTwoEnemies x, int letter, int... answers) {
        for (int what = 0; what < answers.length; what++) {
            due(x.letterOf(letter, what), answers[what]);
        }
    }

    private static void keeperOf() {
        by(4, "Of a KEEPER: KIND (what 0), FIGURE (1), TOWN (2), FADES (3), STIRS (4), PAY (5).");
        OnlyTwoEnemies x = told("k000;k193;k292;k391;k490;k593;");
        keeperIs(x, 0, 0, 0, 0, 1, 0, 1, -2);
        keeperIs(x, 1, 1, 9, 3, 0, 1, 20, -2);
        keeperIs(x, 2, 2, 9, 2, 2, 0, 5, -2);
        keeperIs(x, 3, 3, 9, 1, 5, 0, 0, -2);
        keeperIs(x, 4, 4, 9, 0, 0, 3, 19, -2);
        keeperIs(x, 5, 5, 9, 3, 3, 0, 2, -2);
        keeperIs(x, 6, -1, -1, -1, -1, -1, -1, -1);
        keeperIs(x, -1, -1);
        due(x.keeperOf(0, -1), -2);
        x.goes(5, 0);
        keeperIs(x, 5, 5, 9, 0, 3, 0, 2);
    }

    private static void letterOf() {
        by(5, "Of a LETTER: DEPTH (what 0), TOWN (1), 1 OPEN (2), who OPENS it as all is now, SEALED or not (3; -9).");
        OnlyTwoEnemies x = told("k100;k103;l000;l993;l203;");
        letterIs(x, 0, 0, 0, 0, -9, -2);
        letterIs(x, 1, 99, 3, 0, -9, -2);
        letterIs(x, 3, -1, -1, -1, -1, -1);
        letterIs(x, -1, -1);
        x.goes(0, 3);
        letterIs(x, 0, 0, 0, 0, -9);
        letterIs(x, 2, 20, 3, 0, 1);
        x.seals(2);
        letterIs(x, 2, 20, 3, 1, 1);
        x.hates(0, 1, 19);
        letterIs(x, 2, 20, 3, 1, -9);
        due(x.letterOf(2, -1), -2);
        OnlyTwoEnemies six = told(SIX_BROTHERS + SIX_LETTERS + "h4521;s5;");
        letterIs(six, 5, 0, 0, 1, 1);
        six.hates(4, 5, 0);
        letterIs(six, 5, 0, 0, 1, 45);
        letterIs(six, 6, -1);
    }

    private static void hate() {
        by(6, "HATE.");
        OnlyTwoEnemies x = told(SIX_BROTHERS + "h0100;h5499;");
        due(x.hate(0, 1), 0);
        due(x.hate(1, 0), 0);
        due(x.hate(4, 5), 99);
        due(x.hate(5, 4), 99);
        due(x.hate(0, 5), 20);
        due(x.hate(5, 5), -1);
        due(x.hate(6, 6), -1);
        due(x.hate(5, 6), -1);
        due(x.hate(6, 5), -1);
        due(x.hate(-1, 5), -1);
        due(x.hate(5, -1), -1);
    }

    private static void keeper() {
        by(7, "A KEEPER more: the number.");
        OnlyTwoEnemies x = new OnlyTwoEnemies();
        due(x.keeper(5, 9, 3), 0);
        due(x.keeper(0, 0, 0), 1);
        for (int i = 2; i <= 5; i++) {
            due(x.keeper(i, i, i % 4), i);
        }
        due(x.keeper(0, 0, 0), -6);
        due(x.keeper(0, 0, 4), -6);
        due(x.keeper(0, -1, 0), -4);
        due(x.keeper(6, 0, 0), -2);
        due(x.count(0), 6);
    }

    private static void letter() {
        by(8, "A LETTER more: its number.");
        OnlyTwoEnemies x = new OnlyTwoEnemies();
        due(x.letter(3, 99), 0);
        due(x.letter(0, 0), 1);
        for (int i = 2; i <= 5; i++) {
            due(x.letter(i % 4, i), i);
        }
        due(x.letter(0, 0), -6);
        due(x.letter(0, 100), -6);
        due(x.letter(0, -1), -4);
        due(x.letter(4, 0), -1);
        due(x.count(1), 6);
    }

    private static void hates() {
        by(9, "HATE becomes v: what it was.");
        OnlyTwoEnemies x = told(SIX_BROTHERS);
        due(x.hates(5, 0, 99), 20);
        due(x.hates(0, 5, 0), 99);
        due(x.hates(0, 5, 1), 0);
        due(x.hates(5, 0, 98), 1);
        due(x.hates(5, 0, -1), -4);
        due(x.hates(5, 0, 100), -6);
        due(x.hates(5, 5, 50), -1);
        due(x.hates(5, 6, 50), -1);
        due(x.hate(0, 5), 98);
        due(x.count(4), 14 * 20 + 98);
    }

    private static void goes() {
        by(10, "He is in a TOWN: where he was.");
        OnlyTwoEnemies x = told(SIX_BROTHERS);
        int[] way = {3, 0, 0, 1, 2, 3, 3};
        int was = 0;
        for (int town : way) {
            due(x.goes(5, town), was);
            was = town;
            due(x.keeperOf(5, 2), town);
            due(x.keeperOf(4, 2), 0);
        }
        due(x.goes(5, 4), -1);
        due(x.goes(5, -1), -1);
        due(x.goes(6, 0), -1);
        due(x.goes(-1, 0), -1);
        due(x.keeperOf(5, 2), 3);
    }

    private static void seals() {
        by(11, "SEALED again, or OPEN: 1 it is OPEN now, 0.");
        OnlyTwoEnemies x = told(SIX_LETTERS);
        for (int letter : new int[] {0, 5}) {
            due(x.seals(letter), 1);
            due(x.letterOf(letter, 2), 1);
            due(x.seals(letter), 0);
            due(x.letterOf(letter, 2), 0);
            due(x.seals(letter), 1);
        }
        due(x.count(3), 33);
        due(x.seals(6), -1);
        due(x.seals(-1), -1);
        due(x.count(3), 33);
        // What is SEALED again can be opened again.
        tell(x, "k100;k100;");
        due(x.weeks(1), 6);
        due(x.hate(0, 1), 0);
        due(x.seals(5), 0);
        due(x.weeks(1), 6);
    }

    private static void weeks() {
        by(12, "n WEEKS go by: how many LETTERS are OPEN.");
        OnlyTwoEnemies x = told("k100;k100;" + SIX_LETTERS);
        due(x.weeks(60), 6);
        due(x.count(2), 60);
        due(x.weeks(1), 6);
        due(x.count(2), 61);
        x.seals(0);
        x.goes(0, 1);
        due(x.weeks(1), 5);
        due(new OnlyTwoEnemies().weeks(60), 0);
        OnlyTwoEnemies late = new OnlyTwoEnemies();
        until(late, 939);
        due(late.weeks(61), -6);
        due(late.weeks(60), 0);
        due(late.count(2), 999);
        due(late.weeks(1), -6);
        due(late.weeks(0), -4);
        OnlyTwoEnemies later = new OnlyTwoEnemies();
        until(later, 940);
        due(later.weeks(60), -6);
        due(later.count(2), 940);
        due(later.weeks(59), 0);
    }

    private static void when() {
        by(16, "WHEN (what 0; -9), by whom (1; -9).");
        OnlyTwoEnemies x = told(SIX_BROTHERS + "h4599;l000;l000;l000;l990;l990;l940;s0;");
        int[] weeks = {0, 1, 1, 1, -9, 1};
        int[] whom = {-9, 1, 1, 45, -9, 45};
        for (int letter = 0; letter <= 5; letter++) {
            due(x.when(letter, 0), weeks[letter]);
            due(x.when(letter, 1), whom[letter]);
        }
        due(x.when(6, 0), -1);
        due(x.when(-1, 1), -1);
        due(x.when(5, 2), -2);
        due(x.when(0, -1), -2);
    }

    private static void lasts() {
        by(17, "LASTS; -9.");
        OnlyTwoEnemies x = told(SIX_BROTHERS + "h4500;");
        due(x.lasts(4, 5, 0), -9);
        due(x.lasts(4, 5, 1), 0);
        due(x.lasts(5, 4, 99), 0);
        x.hates(4, 5, 99);
        due(x.lasts(4, 5, 99), -9);
        x.hates(4, 5, 98);
        due(x.lasts(4, 5, 99), 0);
        due(x.lasts(4, 5, -1), -4);
        due(x.lasts(4, 5, 100), -6);
        due(x.lasts(5, 5, -1), -1);
    }

    private static void never() {
        by(18, "NEVER (what 0, bits), FIRST (1; -9).");
        OnlyTwoEnemies x = told("k100;k101;" + SIX_LETTERS);
        due(x.never(0), 63);
        due(x.never(1), -9);
        x.goes(1, 0);
        due(x.never(0), 0);
        due(x.never(1), 0);
        x.weeks(1);
        due(x.never(0), 0);
        due(x.never(1), -9);
        x.seals(5);
        due(x.never(1), 5);
        due(x.never(-1), -2);
        due(x.never(2), -2);
    }

    private static void insult() {
        by(19, "INSULT; -9.");
        OnlyTwoEnemies x = told(SIX_BROTHERS + "l991;l000;l000;l000;l000;l990;h4500;g41;g51;");
        due(x.insult(4, 5, 0), 99);
        due(x.insult(5, 4, 5), -9);
        x.hates(4, 5, 99);
        due(x.insult(4, 5, 0), 0);
        // The LETTERS ahead of it are opened by others, who HATE each other less.
        due(x.insult(0, 1, 5), 79);
        due(x.insult(6, 5, 0), -1);
        due(x.insult(5, 5, 0), -1);
        due(x.insult(4, 5, 6), -1);
        due(x.insult(4, 5, -1), -1);
    }

    private static void send() {
        by(20, "SEND; -9.");
        OnlyTwoEnemies x = told("k101;k100;k100;k100;k100;k100;l201;");
        due(x.send(0), -9);
        due(x.send(1), 11);
        x.hates(0, 1, 0);
        due(x.send(60), 21);
        // 0 and 1 grow apart to 99.
        x.weeks(60);
        due(x.send(60), 11);
        x.seals(0);
        due(x.send(60), -9);
        due(x.send(61), -6);
        due(x.send(-1), -4);
    }

    private static void places() {
        by(21, "PLACES: 100 times the first's .. (what 0), how many (1).");
        OnlyTwoEnemies x = told(SIX_BROTHERS + "l203;");
        due(x.places(3, 4, 5, 0, 0), 0);
        due(x.places(3, 4, 5, 0, 1), 0);
        due(x.places(3, 4, 5, 60, 0), 33);
        due(x.places(5, 3, 4, 60, 0), 33);
        due(x.places(3, 4, 5, 60, 1), 1);
        x.hates(4, 5, 0);
        due(x.places(3, 4, 5, 60, 0), 303);
        due(x.places(5, 4, 3, 60, 0), 33);
        x.hates(3, 5, 0);
        due(x.places(3, 4, 5, 60, 0), 330);
        x.hates(3, 4, 0);
        due(x.places(3, 4, 5, 60, 0), 0);
        due(x.places(3, 4, 5, 60, 1), 0);
        due(x.places(3, 4, 5, 61, 0), -6);
        due(x.places(3, 4, 5, -1, 0), -4);
        due(x.places(3, 4, 5, 60, 2), -2);
        due(x.places(3, 4, 6, 60, 2), -1);
        due(x.places(3, 3, 5, 60, 2), -1);
    }

    private static void fewest() {
        by(22, "FEWEST (what 0, bits), PAY (1).");
        OnlyTwoEnemies x = told("k190;k190;k191;k191;k192;k192;l200;l201;l202;");
        due(x.fewest(0, 0), 0);
        due(x.fewest(0, 1), 0);
        due(x.fewest(60, 0), 63);
        due(x.fewest(60, 1), 120);
        due(x.fewest(1, 1), 120);
        due(x.fewest(60, -1), -2);
        due(x.fewest(60, 2), -2);
        due(x.fewest(61, 2), -6);
        due(x.fewest(-1, 2), -4);
    }

    private static void pay() {
        by(23, "PAY of all in n WEEKS (town -1), of a TOWN in n WEEKS.");
        OnlyTwoEnemies x = told("k190;k190;k190;k193;k193;k193;");
        due(x.pay(-1, 0), 0);
        due(x.pay(-1, 1), 120);
        due(x.pay(-1, 60), 7200);
        due(x.pay(0, 60), 3600);
        due(x.pay(1, 60), 0);
        due(x.pay(3, 1), 60);
        due(x.pay(3, 0), 0);
        due(x.pay(3, -1), -4);
        due(x.pay(3, 61), -6);
        due(x.pay(4, 61), -1);
        due(x.pay(-2, -1), -1);
    }

    private static void deepest() {
        by(24, "DEEPEST; -9.");
        OnlyTwoEnemies x = told("k003;k003;h0100;");
        due(x.deepest(0), -9);
        due(x.deepest(3), 0);
        x.hates(0, 1, 99);
        due(x.deepest(3), 99);
        due(x.deepest(4), -1);
        due(x.deepest(-1), -1);
    }

    private static void pairs() {
        by(25, "PAIRS.");
        OnlyTwoEnemies x = told(SIX_BROTHERS);
        due(x.pairs(0), 3);
        due(x.pairs(20), 3);
        due(x.pairs(21), 0);
        due(x.pairs(99), 0);
        x.hates(0, 5, 99);
        due(x.pairs(99), 1);
        due(x.pairs(100), -6);
        due(x.pairs(-1), -4);
    }

    private static void worst() {
        by(26, "WORST (what 0; -9), that (1; -9), FRIENDS (2).");
        OnlyTwoEnemies x = told("k100;");
        int[] nobody = {-9, -9, 0};
        for (int what = 0; what <= 2; what++) {
            due(x.worst(what), nobody[what]);
            due(new OnlyTwoEnemies().worst(what), nobody[what]);
        }
        OnlyTwoEnemies six = told(SIX_BROTHERS + "h5499;h0100;");
        int[] due = {45, 99, 1};
        for (int what = 0; what <= 2; what++) {
            due(six.worst(what), due[what]);
        }
        due(six.worst(3), -2);
        due(six.worst(-1), -2);
    }

    private static void jug() {
        by(29, "JUG; part 0 above, 1 below the line. Refused as told:");
        OnlyTwoEnemies x = new OnlyTwoEnemies();
        due(x.jug(1, 1, 20, 0), 1);
        due(x.jug(1, 1, 20, 1), 20);
        due(x.jug(1, 1, 20, -1), LONG + 2);
        due(x.jug(1, 1, 20, 2), LONG + 2);
        due(x.jug(8, 8, 20, 1), 25600000000L);
        due(x.jug(8, 8, 21, 1), LONG + 6);
        due(x.jug(8, 9, 20, 1), LONG + 6);
        due(x.jug(9, 8, 20, 1), LONG + 6);
        due(x.jug(0, 0, 2, 1), 1);
        due(x.jug(0, 0, 1, 1), LONG + 4);
        due(x.jug(0, -1, 2, 1), LONG + 4);
        due(x.jug(-1, 0, 2, 1), LONG + 4);
        due(x.jug(9, 9, 1, 2), LONG + 4);
        due(x.jug(9, 9, 21, 2), LONG + 6);
        due(x.count(12), 2);
        due(x.count(14), 4);
        due(x.count(16), 4);
    }

    private static void two() {
        by(30, "TWO; -9.");
        OnlyTwoEnemies x = told(SIX_BROTHERS + "h4599;");
        due(x.two(0, 1), 0);
        due(x.two(5, 4), 0);
        due(x.two(5, 5), -1);
        due(x.two(5, 6), -1);
        due(x.two(-1, 5), -1);
        due(x.hate(4, 5), 99);
    }

    private static void meetings() {
        by(31, "MEETINGS; part likewise. Refused as told:");
        OnlyTwoEnemies x = told(SIX_BROTHERS + "l990;l990;l990;l990;l990;l210;h4521;");
        due(x.meetings(4, 5, 5, 7, 20, 0), 19);
        due(x.meetings(4, 5, 5, 7, 20, 1), 20);
        due(x.meetings(4, 5, 5, 7, 20, -1), LONG + 2);
        due(x.meetings(4, 5, 5, 7, 20, 2), LONG + 2);
        due(x.meetings(4, 5, 5, 7, 21, 2), LONG + 6);
        due(x.meetings(4, 5, 5, 8, 20, 2), LONG + 6);
        due(x.meetings(4, 5, 5, 8, 1, 2), LONG + 4);
        due(x.meetings(4, 5, 5, -1, 21, 2), LONG + 4);
        due(x.meetings(4, 5, 6, -1, 21, 2), LONG + 1);
        due(x.meetings(4, 4, 5, -1, 21, 2), LONG + 1);
        due(x.meetings(4, 6, 5, -1, 21, 2), LONG + 1);
        due(x.meetings(0, 1, 5, 0, 2, 0), 0);
        due(x.meetings(0, 1, 5, 0, 2, 1), 1);
        due(x.meetings(0, 1, 5, 1, 2, 0), 1);
        due(x.meetings(0, 1, 5, 1, 2, 1), 1);
    }

    private static void fullest() {
        by(32, "FULLEST (what 0), how many (1).");
        OnlyTwoEnemies x = new OnlyTwoEnemies();
        due(x.fullest(0), 0);
        due(x.fullest(1), 0);
        tell(x, "k003;k003;k003;k003;k003;k003;");
        due(x.fullest(0), 3);
        due(x.fullest(1), 6);
        due(x.fullest(2), -2);
        due(x.fullest(-1), -2);
    }

    private static void thickest() {
        by(33, "THICKEST; -9.");
        OnlyTwoEnemies x = new OnlyTwoEnemies();
        due(x.thickest(), -9);
        tell(x, SIX_LETTERS);
        due(x.thickest(), 0);
        for (int letter = 0; letter <= 5; letter++) {
            x.seals(letter);
            due(x.thickest(), letter < 5 ? letter + 1 : -9);
        }
    }

    private static void mildest() {
        by(34, "MILDEST; -9.");
        OnlyTwoEnemies x = new OnlyTwoEnemies();
        due(x.mildest(), -9);
        tell(x, SIX_BROTHERS);
        due(x.mildest(), 0);
        x.hates(4, 5, 0);
        due(x.mildest(), 4);
        x.hates(3, 5, 19);
        due(x.mildest(), 5);
    }

    private static void bare() {
        by(35, "BARE (bits).");
        OnlyTwoEnemies x = new OnlyTwoEnemies();
        due(x.bare(), 0);
        tell(x, "l000;l001;l002;l003;l003;l003;");
        due(x.bare(), 15);
        tell(x, "k003;k003;");
        due(x.bare(), 7);
        tell(x, "s0;s1;s2;s3;s4;");
        due(x.bare(), 0);
        tell(x, "g02;");
        due(x.bare(), 8);
    }

    private static void mean() {
        by(36, "MEAN HATE; part likewise. Refused as told:");
        OnlyTwoEnemies x = new OnlyTwoEnemies();
        due(x.mean(0), 0);
        due(x.mean(1), 1);
        tell(x, SIX_BROTHERS + "h4519;");
        due(x.mean(0), 299);
        due(x.mean(1), 15);
        due(x.mean(-1), LONG + 2);
        due(x.mean(2), LONG + 2);
    }

    private static void used() {
        by(37, "USED. Refused as told:");
        OnlyTwoEnemies x = told("k390;k390;h0199;k481;k482;h2300;");
        due(x.used(0, 1, 60), 99);
        due(x.used(2, 3, 60), -99);
        due(x.used(2, 3, 0), 0);
        due(x.used(2, 3, 61), 1000000006);
        due(x.used(2, 3, -1), 1000000004);
        due(x.used(2, 2, -1), 1000000001);
        due(x.used(4, 2, 61), 1000000001);
    }

    private static void swap() {
        by(38, "SWAP; -9.");
        OnlyTwoEnemies x = told("k100;k100;k100;k100;k103;k103;l210;h0521;");
        due(x.swap(0), -9);
        due(x.swap(1), 15);
        x.hates(0, 5, 0);
        x.hates(3, 4, 21);
        due(x.swap(60), 4);
        x.hates(3, 4, 20);
        due(x.swap(60), -9);
        due(x.swap(61), -6);
        due(x.swap(-1), -4);
    }

    private static void apart() {
        by(39, "APART.");
        OnlyTwoEnemies x = told("k100;k100;" + SIX_LETTERS);
        due(x.apart(0), 0);
        due(x.apart(1), 0);
        due(x.apart(60), 59);
        x.weeks(1);
        due(x.apart(60), 60);
        due(x.apart(61), -6);
        due(x.apart(-1), -4);
    }

    private static void enemy() {
        by(40, "ENEMY; -9.");
        OnlyTwoEnemies x = told("k100;");
        due(x.enemy(0), -9);
        due(x.enemy(1), -1);
        tell(x, "k100;k100;k100;k100;k100;");
        due(x.enemy(0), 1);
        due(x.enemy(5), 0);
        x.hates(4, 5, 99);
        due(x.enemy(5), 4);
        due(x.enemy(4), 5);
        due(x.enemy(6), -1);
        due(x.enemy(-1), -1);
    }

    private static void can() {
        by(41, "CAN (bits).");
        OnlyTwoEnemies x = told("k100;k101;k102;k103;k103;k100;");
        due(x.can(0), 1 + 8);
        due(x.can(20), 1 + 8);
        due(x.can(21), 0);
        x.hates(3, 4, 99);
        due(x.can(99), 8);
        x.hates(3, 4, 0);
        due(x.can(0), 1 + 8);
        due(x.can(1), 1);
        due(x.can(100), -6);
        due(x.can(-1), -4);
    }

    private static void lots() {
        by(45, "LOTS: LETTERS (what 0), HATE (1).");
        OnlyTwoEnemies x = told("k100;k100;" + SIX_LETTERS);
        due(x.lots(1, MIN, 0), 6);
        due(x.lots(20, MAX, 0), 120);
        // Without LETTERS HATE of 0 with seed 0 is 0, 48, 28 in three countries.
        OnlyTwoEnemies y = told("k100;k100;");
        due(y.lots(1, 0, 1), 0);
        due(y.lots(2, 0, 1), 48);
        due(y.lots(3, 0, 1), 48 + 28);
        due(y.lots(3, 0, 0), 0);
        due(y.lots(0, 0, 0), -4);
        due(y.lots(MIN, 0, 2), -4);
        due(y.lots(21, 0, 2), -6);
        due(y.lots(MAX, 0, 2), -6);
        due(y.lots(20, 0, 2), -2);
        due(y.lots(20, 0, -1), -2);
    }
}
