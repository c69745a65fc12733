import java.math.BigInteger;
import java.util.List;

/** The edges of part II, sentence by sentence: what would be, whom to send, who hates, chance, lots. */
public final class MindEdgeTest extends Edges {
    private static final int[] TWOS = {1, 2, 3, 4, 5, 12, 13, 14, 15, 23, 24, 25, 34, 35, 45};
    private static final String SIX_BROTHERS = "k100;k100;k100;k100;k100;k100;";

    public static void main(String[] args) {
        all();
        end("the edges of part II hold");
    }

    static void all() {
        inMind();
        inMindAtTheEnd();
        inMindNothingChanges();
        behindBothWays();
        thenBits();
        whenNever();
        whenByWhom();
        whenOpenNow();
        lastsAllDepths();
        lastsEdges();
        never();
        firstOfSeveral();
        insultLeast();
        insultHeld();
        insultThemselves();
        insultOpen();
        send();
        sendMoreThanElse();
        sendFirst();
        places();
        placesToldOrder();
        fewest();
        fewestLeast();
        fewestPay();
        fewestInNoTown();
        pay();
        payOfATown();
        deepest();
        pairs();
        pairsNobodyTwice();
        worst();
        friends();
        whoHatesEmptyRow();
        whoHatesNone();
        whoHatesOneOnly();
        whoHatesTwelve();
        whatKindEmptyRow();
        whatKindFirstOfThem();
        whatKindTwelve();
        jug();
        jugEdges();
        two();
        meetings();
        meetingsZeroAtLeast();
        meetingsHelp();
        meetingsEdges();
        judged();
        judgedEmpty();
        lotsBySeed();
        lotsLetters();
        drawsWrap();
    }

    private static OnlyTwoEnemies mixed() {
        return told("k100;k040;k481;k390;h0130;h0305;h0297;l150;l103;l030;s1;");
    }

    private static void inMind() {
        by("==== II. In mind, n WEEKS on (0 .. 60): HATE of two; LETTERS that are OPEN (bits); all HATE together.");
        for (int n = 0; n <= 60; n++) {
            OnlyTwoEnemies x = mixed();
            OnlyTwoEnemies y = mixed();
            if (n > 0) {
                y.weeks(n);
            }
            for (int i = 0; i < 4; i++) {
                for (int j = 0; j < 4; j++) {
                    due(x.behind(i, j, n), i == j ? -1 : y.hate(i, j));
                }
            }
            due(x.then(n, 0), y.count(3));
            due(x.then(n, 1), y.count(4));
            due(x.count(2), 0);
        }
    }

    private static void inMindAtTheEnd() {
        by("==== II. In mind, n WEEKS on (0 .. 60):");
        OnlyTwoEnemies x = new OnlyTwoEnemies();
        until(x, 999);
        tell(x, "k040;k130;l980;h0199;k521;l150;l990;");
        due(x.behind(0, 1, 60), 29);
        due(x.then(60, 0), 3);
        due(x.then(60, 1), 29 + 20 + 80);
        due(x.when(1, 0), 1);
        due(x.when(2, 0), -9);
        due(x.lasts(0, 1, 30), 60);
        due(x.lasts(0, 1, 29), -9);
        due(x.never(0), 4);
        due(x.apart(60), 59);
        due(x.used(0, 1, 60), 70);
        due(x.count(2), 999);
        due(x.weeks(1), -6);
    }

    private static void inMindNothingChanges() {
        by("In mind,");
        OnlyTwoEnemies x = mixed();
        x.weeks(2);
        x.row(1);
        x.feed('k');
        List<Long> was = country(x);
        for (int n = 0; n <= 60; n += 20) {
            x.behind(0, 1, n);
            x.then(n, 0);
            x.then(n, 1);
            x.send(n);
            x.swap(n);
            x.apart(n);
            x.used(0, 1, n);
            x.places(0, 1, 2, n, 0);
            x.places(0, 1, 2, n, 1);
            x.fewest(n, 0);
            x.fewest(n, 1);
            x.pay(-1, n);
            x.meetings(0, 1, 0, n / 20, 2, 0);
            x.lots(n / 20 + 1, n, 0);
            x.lots(n / 20 + 1, n, 1);
        }
        for (int what = 0; what <= 2; what++) {
            x.when(0, what % 2);
            x.never(what % 2);
            x.worst(what);
            x.whoHates(0, 1, what);
            x.whatKind(0, 1, what % 2);
            x.lasts(0, 1, what);
            x.insult(0, 1, 2);
            x.two(what, 3);
            x.pairs(what);
            x.can(what);
            x.enemy(what);
            x.deepest(what);
        }
        same(country(x), was);
        due(x.count(5), 1);
        due(x.count(6), 1);
        due(x.count(7), 1);
        x.back();
        due(x.hate(0, 1), 30);
    }

    private static void behindBothWays() {
        by(14, "n WEEKS on HATE of two.");
        OnlyTwoEnemies x = told(SIX_BROTHERS + "g51;");
        for (int two : TWOS) {
            x.hates(two / 10, two % 10, two);
        }
        for (int two : TWOS) {
            int due = two % 10 == 5 ? Math.min(99, two + 2 * 30) : two;
            due(x.behind(two / 10, two % 10, 30), due);
            due(x.behind(two % 10, two / 10, 30), due);
            due(x.behind(two % 10, two / 10, 0), two);
        }
    }

    private static void thenBits() {
        by(15, "n WEEKS on: what is OPEN (what 0, bits), all HATE (1).");
        OnlyTwoEnemies x = new OnlyTwoEnemies();
        due(x.then(0, 0), 0);
        due(x.then(60, 0), 0);
        due(x.then(0, 1), 0);
        due(x.then(60, 1), 0);
        OnlyTwoEnemies six = told(SIX_BROTHERS + "l000;l000;l000;l000;l000;l000;h0199;");
        due(six.then(0, 0), 0);
        due(six.then(1, 0), 63);
        due(six.then(60, 0), 63);
        due(six.then(0, 1), 14 * 20 + 99);
        // The first two with 20: 15 behind the first LETTER, and the least of all from there on.
        due(six.then(1, 1), 13 * 20 + 99);
    }

    private static void whenNever() {
        by("WHEN: behind how many WEEKS (0 .. 60) a LETTER is OPEN first; -9;");
        OnlyTwoEnemies x = told("k000;k100;l190;l200;l001;l000;s3;");
        due(x.when(0, 0), 1);
        due(x.when(1, 0), -9);
        due(x.when(2, 0), -9);
        due(x.when(3, 0), 0);
        x.weeks(1);
        due(x.when(0, 0), 0);
        x.seals(0);
        due(x.when(0, 0), -9);
        OnlyTwoEnemies nobody = told("l000;");
        due(nobody.when(0, 0), -9);
        due(nobody.when(0, 1), -9);
        due(nobody.when(1, 0), -1);
        nobody.seals(0);
        due(nobody.when(0, 0), 0);
        due(nobody.when(0, 1), -9);
    }

    private static void whenByWhom() {
        by("by whom (10 the lesser and the other;");
        for (int two : TWOS) {
            OnlyTwoEnemies x = told(SIX_BROTHERS + "l210;");
            x.hates(two % 10, two / 10, 21);
            due(x.when(0, 0), 1);
            due(x.when(0, 1), two);
        }
        // Who would open it now need not be who does in a WEEK.
        OnlyTwoEnemies x = told("k000;k000;k100;k100;h0121;h2322;l210;");
        due(x.letterOf(0, 3), 1);
        due(x.when(0, 1), 23);
        // And who opens the second HATES less by the first.
        OnlyTwoEnemies y = told("k100;k100;k100;h0125;h0225;h1230;l210;l210;l210;l210;");
        due(y.when(0, 1), 1);
        due(y.when(1, 1), 2);
        due(y.when(2, 1), 12);
        due(y.when(3, 1), 12);
    }

    private static void whenOpenNow() {
        by("-9 it is OPEN now, too).");
        OnlyTwoEnemies x = told("k100;k100;l200;");
        due(x.when(0, 1), 1);
        x.seals(0);
        due(x.when(0, 0), 0);
        due(x.when(0, 1), -9);
        x.seals(0);
        x.weeks(1);
        due(x.count(3), 1);
        due(x.when(0, 0), 0);
        due(x.when(0, 1), -9);
    }

    private static void lastsAllDepths() {
        by("LASTS: behind how many WEEKS (0 .. 60) two HATE each other less than a told DEPTH first; -9.");
        for (int hate = 0; hate <= 99; hate++) {
            OnlyTwoEnemies x = told("k000;k100;k101;");
            x.hates(0, 1, hate);
            x.hates(1, 2, hate);
            for (int depth = 0; depth <= 99; depth++) {
                int fading = hate < depth ? 0 : hate - depth + 1;
                due(x.lasts(0, 1, depth), depth == 0 || fading > 60 ? -9 : fading);
                due(x.lasts(2, 1, depth), hate < depth ? 0 : -9);
            }
        }
    }

    private static void lastsEdges() {
        by("LASTS: behind how many WEEKS (0 .. 60) two HATE each other less than a told DEPTH first; -9.");
        OnlyTwoEnemies x = told("k000;k100;h0160;");
        due(x.lasts(0, 1, 1), 60);
        due(x.lasts(0, 1, 0), -9);
        x.hates(0, 1, 61);
        due(x.lasts(0, 1, 1), -9);
        due(x.lasts(0, 1, 2), 60);
        // By a LETTER that they open it fades 5 at once.
        OnlyTwoEnemies y = told("k000;k100;h0165;l640;");
        due(y.lasts(0, 1, 1), 60);
        due(y.lasts(0, 1, 65), 1);
        due(y.lasts(0, 1, 60), 1);
        due(y.lasts(0, 1, 59), 2);
    }

    private static void never() {
        by("NEVER: LETTERS (bits) still SEALED behind 60 WEEKS.");
        OnlyTwoEnemies x = new OnlyTwoEnemies();
        due(x.never(0), 0);
        due(x.never(1), -9);
        tell(x, "l000;l000;l000;l000;l000;l000;");
        due(x.never(0), 63);
        due(x.never(1), -9);
        x.seals(5);
        due(x.never(0), 31);
        x.keeper(0, 0, 0);
        x.keeper(0, 0, 0);
        due(x.never(0), 0);
        due(x.never(1), 0);
        OnlyTwoEnemies all = told("l000;l000;l000;l000;l000;l000;s0;s1;s2;s3;s4;s5;");
        due(all.never(0), 0);
        due(all.never(1), -9);
    }

    private static void firstOfSeveral() {
        by("FIRST: the LETTER SEALED now that is OPEN first, of several the least; -9.");
        for (int least = 0; least <= 5; least++) {
            OnlyTwoEnemies x = told("k100;k100;h0199;" + times(least, "l993;") + times(6 - least, "l000;"));
            due(x.never(1), least);
            due(x.never(0), (1 << least) - 1);
            x.seals(least);
            due(x.never(1), least < 5 ? least + 1 : -9);
            due(x.never(0), (1 << least) - 1);
        }
    }

    private static void insultLeast() {
        by("INSULT of two: by how much more HATE now (0 .. 99,");
        for (int depth = 0; depth <= 99; depth++) {
            OnlyTwoEnemies x = told("k100;k100;");
            x.letter(0, depth);
            for (int hate = 0; hate <= 99; hate++) {
                x.hates(0, 1, hate);
                due(x.insult(1, 0, 0), Math.max(0, depth - hate));
            }
        }
        by("themselves open a told LETTER (the least such); -9.");
        OnlyTwoEnemies x = told("k100;k100;h0100;l990;l000;l001;");
        due(x.insult(0, 1, 0), 99);
        due(x.insult(0, 1, 1), 0);
        due(x.insult(0, 1, 2), -9);
        due(x.hate(0, 1), 0);
    }

    private static void insultHeld() {
        by("99 at most is held) they would, in the WEEK to come,");
        OnlyTwoEnemies x = told("k000;k100;l980;l990;");
        for (int hate = 0; hate <= 99; hate++) {
            x.hates(0, 1, hate);
            due(x.insult(0, 1, 0), 99 - hate);
            due(x.insult(0, 1, 1), -9);
        }
        // Who fade by 10 HATE each other 89 at most in the WEEK to come.
        OnlyTwoEnemies y = told("k390;k390;l890;l900;h0189;");
        due(y.insult(0, 1, 0), 10);
        due(y.insult(0, 1, 1), -9);
        due(y.hates(0, 1, 99), 89);
        due(y.insult(0, 1, 0), 0);
        due(y.insult(0, 1, 1), -9);
    }

    private static void insultThemselves() {
        by("themselves open a told LETTER (the least such); -9.");
        OnlyTwoEnemies x = told("k100;k100;k100;h0130;h0220;h1220;l300;");
        due(x.insult(0, 1, 0), 0);
        due(x.insult(0, 2, 0), -9);
        due(x.insult(1, 2, 0), -9);
        x.hates(0, 1, 20);
        x.hates(1, 2, 30);
        due(x.insult(0, 1, 0), 10);
        due(x.insult(0, 2, 0), 10);
        due(x.insult(1, 2, 0), 0);
        x.hates(1, 2, 31);
        due(x.insult(2, 0, 0), 10);
        // With 30 they open the LETTER ahead of it, and have 25 then; with 35 both.
        OnlyTwoEnemies y = told("k100;k100;l300;l300;");
        due(y.insult(0, 1, 0), 10);
        due(y.insult(0, 1, 1), 15);
        // Only in the WEEK to come, not later.
        OnlyTwoEnemies late = told("k100;k101;h0190;l900;");
        due(late.insult(0, 1, 0), -9);
    }

    private static void insultOpen() {
        by(19, "-3 it is OPEN.");
        OnlyTwoEnemies x = told("k100;k100;l200;l200;s0;");
        due(x.insult(0, 1, 0), -3);
        due(x.insult(0, 1, 1), 0);
        due(x.insult(0, 0, 0), -1);
        due(x.insult(0, 1, 2), -1);
        due(x.insult(0, 2, 0), -1);
        x.seals(0);
        due(x.insult(0, 1, 0), 0);
        x.weeks(1);
        due(x.insult(0, 1, 0), -3);
        due(x.count(13), 2);
        due(x.count(11), 3);
    }

    private static void send() {
        by("SEND: the KEEPER and the TOWN (10 the one and the TOWN; not his own) by which, gone there now, "
            + "most LETTERS are OPEN behind n WEEKS,");
        OnlyTwoEnemies x = told("k000;k101;l151;l150;");
        due(x.send(0), -9);
        due(x.send(1), 1);
        due(x.send(60), 1);
        due(x.keeperOf(0, 2), 0);
        OnlyTwoEnemies to = told("k101;k100;l150;");
        due(to.send(1), 0);
        OnlyTwoEnemies last = told("k100;k100;k100;k100;k103;k100;l203;h4000;h4100;h4200;h4300;h4599;");
        due(last.send(1), 53);
        due(last.send(60), 53);
        last.hates(4, 3, 20);
        due(last.send(1), 33);
    }

    private static void sendMoreThanElse() {
        by("more than else, of several the first; -9.");
        OnlyTwoEnemies x = new OnlyTwoEnemies();
        due(x.send(0), -9);
        due(x.send(60), -9);
        x.letter(0, 0);
        due(x.send(60), -9);
        x.keeper(1, 0, 1);
        due(x.send(60), -9);
        x.keeper(1, 0, 1);
        due(x.send(60), -9);
        x.keeper(1, 0, 0);
        due(x.send(60), 0);
        x.seals(0);
        due(x.send(60), -9);
        // As many as else is not more.
        OnlyTwoEnemies y = told("k100;k100;k101;l200;l201;");
        due(y.send(1), -9);
        y.letter(1, 20);
        due(y.send(1), -9);
        y.hates(1, 2, 25);
        due(y.send(1), 11);
    }

    private static void sendFirst() {
        by("of several the first; -9.");
        OnlyTwoEnemies x = told("k100;k101;k102;k103;l200;l201;l202;l203;");
        due(x.send(1), 1);
        x.seals(1);
        x.hates(0, 2, 0);
        due(x.send(1), 3);
        x.hates(0, 3, 0);
        due(x.send(1), 10);
        x.hates(0, 1, 0);
        due(x.send(1), 12);
        x.hates(1, 2, 0);
        due(x.send(1), 13);
        x.hates(1, 3, 0);
        due(x.send(1), 23);
        x.hates(2, 3, 0);
        due(x.send(1), -9);
    }

    private static void places() {
        by("PLACES: TOWNS of three told KEEPERS by which most are OPEN behind n WEEKS, of several the first");
        OnlyTwoEnemies x = told("k103;k102;k101;");
        due(x.places(0, 1, 2, 60, 0), 0);
        due(x.places(0, 1, 2, 60, 1), 0);
        tell(x, "l203;l203;l203;");
        due(x.places(0, 1, 2, 0, 0), 0);
        due(x.places(0, 1, 2, 0, 1), 0);
        due(x.places(0, 1, 2, 1, 0), 333);
        due(x.places(0, 1, 2, 60, 1), 3);
        due(x.keeperOf(0, 2), 3);
        due(x.keeperOf(1, 2), 2);
        x.seals(0);
        due(x.places(0, 1, 2, 0, 0), 0);
        due(x.places(0, 1, 2, 0, 1), 1);
        due(x.places(0, 1, 2, 1, 0), 333);
        OnlyTwoEnemies six = told(SIX_BROTHERS + "l000;l000;l000;l000;l000;l001;g31;");
        due(six.places(0, 1, 2, 1, 0), 1);
        due(six.places(0, 1, 2, 1, 1), 6);
        due(six.places(5, 4, 0, 1, 0), 1);
    }

    private static void placesToldOrder() {
        by("(by the told order, least TOWNS): 100 times the first's, 10 times the second's, the third's; how many.");
        OnlyTwoEnemies x = told("k100;k100;k100;k101;l201;h0119;h0219;h1219;h1319;h2319;");
        due(x.places(0, 1, 2, 1, 0), 100);
        due(x.places(1, 0, 2, 1, 0), 10);
        due(x.places(2, 1, 0, 1, 0), 1);
        due(x.places(0, 1, 2, 1, 1), 1);
        due(x.places(1, 2, 3, 1, 0), 0);
        due(x.places(1, 2, 3, 1, 1), 0);
        x.hates(1, 3, 20);
        due(x.places(0, 1, 2, 1, 0), 10);
        due(x.places(1, 0, 2, 1, 0), 10);
        due(x.places(2, 0, 1, 1, 0), 1);
        due(x.places(3, 1, 0, 1, 0), 101);
    }

    private static void fewest() {
        by("FEWEST: the fewest KEEPERS (bits, of several the least) kept");
        OnlyTwoEnemies x = new OnlyTwoEnemies();
        due(x.fewest(0, 0), 0);
        due(x.fewest(60, 0), 0);
        due(x.fewest(60, 1), 0);
        tell(x, "k100;k100;k101;k101;k102;k102;");
        due(x.fewest(60, 0), 0);
        tell(x, "l200;l201;l202;");
        due(x.fewest(0, 0), 0);
        due(x.fewest(1, 0), 63);
        due(x.fewest(60, 0), 63);
        due(x.fewest(1, 1), 12);
        x.seals(1);
        due(x.fewest(1, 0), 1 + 2 + 16 + 32);
        due(x.fewest(1, 1), 8);
        x.seals(0);
        x.seals(2);
        due(x.fewest(1, 0), 0);
        due(x.fewest(1, 1), 0);
    }

    private static void fewestLeast() {
        by("FEWEST: the fewest KEEPERS (bits, of several the least) kept");
        OnlyTwoEnemies x = told(SIX_BROTHERS + "l400;");
        int[] byBits = {45, 35, 25, 15, 5, 34, 24, 14, 4, 23, 13, 3, 12, 2, 1};
        for (int two : byBits) {
            x.hates(two / 10, two % 10, 40);
            due(x.fewest(1, 0), (1 << two / 10) + (1 << two % 10));
        }
    }

    private static void fewestPay() {
        by("by whom as many LETTERS are OPEN behind n WEEKS as by all; PAY of these a week.");
        OnlyTwoEnemies x = told("k190;k180;k000;k040;k391;k581;h0150;h4550;l500;l441;");
        due(x.fewest(1, 0), 3);
        due(x.fewest(1, 1), 20 + 18);
        x.goes(1, 2);
        due(x.fewest(1, 0), 0);
        due(x.fewest(1, 1), 0);
        x.hates(4, 5, 52);
        due(x.fewest(1, 0), 16 + 32);
        due(x.fewest(1, 1), 2);
        x.hates(2, 3, 52);
        due(x.fewest(60, 0), 60);
        due(x.fewest(60, 1), 2 + 1 + 5);
    }

    private static void fewestInNoTown() {
        by("(the others are in no TOWN, and HATE nobody any more or less)");
        // Were the others sent to any TOWN, they would open its LETTER, and fewer would do.
        OnlyTwoEnemies x = told("k100;k101;k102;k103;k100;k101;h0499;h1599;l000;l001;l002;l003;");
        due(x.fewest(1, 0), 1 + 2 + 16 + 32);
        due(x.then(1, 0), 3);
        due(x.count(4), 2 * 99 + 13 * 20);
        for (int i = 0; i < 6; i++) {
            due(x.keeperOf(i, 2), i % 4);
        }
    }

    private static void pay() {
        by("PAY of all in n WEEKS;");
        OnlyTwoEnemies x = new OnlyTwoEnemies();
        due(x.pay(-1, 60), 0);
        for (int i = 1; i <= 6; i++) {
            x.keeper(1, 9, i % 4);
            due(x.pay(-1, 0), 0);
            due(x.pay(-1, 1), 20 * i);
            due(x.pay(-1, 60), 1200 * i);
        }
        x.weeks(60);
        due(x.pay(-1, 60), 7200);
    }

    private static void payOfATown() {
        by("of a TOWN a week.");
        OnlyTwoEnemies x = told("k090;k190;k290;k390;k490;k590;g13;g22;g31;g43;");
        int[] town = {10 + 2, 0, 5, 20 + 19};
        for (int i = 0; i <= 3; i++) {
            due(x.pay(i, 1), town[i]);
            due(x.pay(i, 0), 0);
            due(x.pay(i, 60), 60 * town[i]);
        }
        due(x.pay(-1, 1), 56);
        due(x.pay(-2, 1), -1);
        due(x.pay(4, 1), -1);
        due(x.pay(MIN, 1), -1);
        due(x.pay(MAX, 61), -1);
        due(x.count(11), 4);
    }

    private static void deepest() {
        by("DEEPEST: the greatest DEPTH (0 .. 99) that a TOWN can open now; -9 it has no two.");
        OnlyTwoEnemies x = new OnlyTwoEnemies();
        for (int town = 0; town <= 3; town++) {
            due(x.deepest(town), -9);
        }
        tell(x, "k000;k001;k001;h1200;h0199;");
        due(x.deepest(0), -9);
        due(x.deepest(1), 0);
        due(x.deepest(2), -9);
        x.goes(0, 1);
        due(x.deepest(0), -9);
        due(x.deepest(1), 99);
        x.hates(0, 1, 98);
        due(x.deepest(1), 98);
        x.goes(2, 3);
        x.goes(0, 3);
        due(x.deepest(1), -9);
        due(x.deepest(3), 20);
    }

    private static void pairs() {
        by("PAIRS: the most twos, nobody in more than one, each in one TOWN, who HATE each other v (0 .. 99) or more.");
        OnlyTwoEnemies x = new OnlyTwoEnemies();
        due(x.pairs(0), 0);
        int[] most = {0, 1, 1, 2, 2, 3};
        for (int i = 0; i <= 5; i++) {
            x.keeper(0, 0, 3);
            due(x.pairs(0), most[i]);
            due(x.pairs(20), most[i]);
            due(x.pairs(21), 0);
        }
        x.hates(4, 5, 99);
        due(x.pairs(99), 1);
        due(x.pairs(98), 1);
        x.hates(4, 5, 98);
        due(x.pairs(99), 0);
        for (int i = 0; i <= 5; i++) {
            x.goes(i, i % 4);
        }
        due(x.pairs(0), 2);
        x.goes(4, 2);
        due(x.pairs(0), 2);
        x.goes(5, 3);
        x.goes(2, 1);
        due(x.pairs(0), 2);
        x.goes(4, 0);
        due(x.pairs(0), 3);
    }

    private static void pairsNobodyTwice() {
        by("nobody in more than one,");
        OnlyTwoEnemies x = told("k000;k000;k000;k000;k000;k000;");
        for (int two : TWOS) {
            x.hates(two / 10, two % 10, 0);
        }
        // A row 2-0-1-3: the first two alone would leave no other.
        x.hates(0, 1, 50);
        due(x.pairs(50), 1);
        x.hates(0, 2, 50);
        due(x.pairs(50), 1);
        x.hates(1, 3, 50);
        due(x.pairs(50), 2);
        // All with 0 only, then a row of six.
        x.hates(0, 3, 50);
        due(x.pairs(50), 2);
        x.hates(3, 4, 50);
        x.hates(2, 5, 50);
        due(x.pairs(50), 3);
        OnlyTwoEnemies star = told("k000;k000;k000;k000;k000;k000;");
        for (int two : TWOS) {
            star.hates(two / 10, two % 10, two % 10 == 5 ? 50 : 49);
        }
        due(star.pairs(50), 1);
        due(star.pairs(49), 3);
    }

    private static void worst() {
        by("WORST: the two (10 the lesser and the other) of most HATE, of several the first; -9; that.");
        OnlyTwoEnemies x = new OnlyTwoEnemies();
        due(x.worst(0), -9);
        due(x.worst(1), -9);
        x.keeper(0, 0, 0);
        due(x.worst(0), -9);
        due(x.worst(1), -9);
        x.keeper(0, 0, 3);
        due(x.worst(0), 1);
        due(x.worst(1), 20);
        x.hates(0, 1, 0);
        due(x.worst(0), 1);
        due(x.worst(1), 0);
        OnlyTwoEnemies six = told(SIX_BROTHERS);
        due(six.worst(0), 1);
        for (int i = TWOS.length - 1; i >= 0; i--) {
            six.hates(TWOS[i] % 10, TWOS[i] / 10, 99);
            due(six.worst(0), TWOS[i]);
            due(six.worst(1), 99);
        }
    }

    private static void friends() {
        by("FRIENDS: how many twos HATE each other 0.");
        OnlyTwoEnemies x = new OnlyTwoEnemies();
        due(x.worst(2), 0);
        tell(x, "k000;");
        due(x.worst(2), 0);
        tell(x, "k001;k002;k003;k000;k001;");
        due(x.worst(2), 0);
        for (int i = 0; i < TWOS.length; i++) {
            x.hates(TWOS[i] / 10, TWOS[i] % 10, 1);
            due(x.worst(2), i);
            x.hates(TWOS[i] / 10, TWOS[i] % 10, 0);
            due(x.worst(2), i + 1);
        }
    }

    private static void who(OnlyTwoEnemies x, int many, int least, int greatest) {
        due(x.whoHates(0, 1, 0), many);
        due(x.whoHates(1, 0, 1), least);
        due(x.whoHates(0, 1, 2), greatest);
    }

    private static void whoHatesEmptyRow() {
        by("WHO HATES: a ROW tells how many LETTERS are OPEN behind 0, 1, .. WEEKS: HATE of two (0 .. 99) by which it is so:");
        OnlyTwoEnemies x = told("k100;k100;h0177;l500;");
        who(x, 100, 0, 99);
        rowOf(x, 0);
        who(x, 100, 0, 99);
        rowOf(x, 0, 1);
        who(x, 50, 50, 99);
        rowOf(x, 0, 0);
        who(x, 50, 0, 49);
        due(x.hate(0, 1), 77);
        due(x.count(6), 2);
    }

    private static void whoHatesNone() {
        by("how many; the least; -9; the greatest; -9.");
        OnlyTwoEnemies x = told("k100;k100;l500;");
        rowOf(x, 1);
        who(x, 0, -9, -9);
        rowOf(x, 0, 2);
        who(x, 0, -9, -9);
        rowOf(x, 0, 1, 0);
        who(x, 0, -9, -9);
        rowOf(x, 99);
        who(x, 0, -9, -9);
        x.seals(0);
        rowOf(x, 0);
        who(x, 0, -9, -9);
        rowOf(x, 1, 1, 1, 1, 1, 1, 1, 1, 1, 1, 1, 1);
        who(x, 100, 0, 99);
    }

    private static void whoHatesOneOnly() {
        by("how many; the least; -9; the greatest; -9.");
        OnlyTwoEnemies x = told("k100;k100;l990;");
        rowOf(x, 0, 1);
        who(x, 1, 99, 99);
        OnlyTwoEnemies y = told("k100;k100;l010;");
        rowOf(y, 0, 0);
        who(y, 1, 0, 0);
        OnlyTwoEnemies z = told("k100;k100;l500;l460;");
        rowOf(z, 0, 1);
        who(z, 5, 46, 50);
        rowOf(z, 0, 2);
        who(z, 49, 51, 99);
    }

    private static void whoHatesTwelve() {
        by(27, "WHO HATES by the ROW (it stays): how many (what 0), the least (1; -9), the greatest (2; -9).");
        OnlyTwoEnemies x = told("k100;k100;l500;");
        rowOf(x, 0, 1, 1, 1, 1, 1, 1, 1, 1, 1, 1, 1);
        who(x, 50, 50, 99);
        due(x.count(6), 12);
        rowOf(x, 0, 1, 1, 1, 1, 1, 1, 1, 1, 1, 1, 0);
        who(x, 0, -9, -9);
        rowOf(x, 0, 0, 0, 0, 0, 0, 0, 0, 0, 0, 0, 0);
        who(x, 50, 0, 49);
        rowOf(x, 0, 0, 0, 0, 0, 0, 0, 0, 0, 0, 0, 1);
        who(x, 0, -9, -9);
        due(x.count(6), 12);
        due(x.clear(), 12);
    }

    private static void what(OnlyTwoEnemies x, int kinds, int figures) {
        due(x.whatKind(0, 1, 0), kinds);
        due(x.whatKind(0, 1, 1), figures);
    }

    private static void whatKindEmptyRow() {
        by("WHAT KIND: a ROW tells HATE of two behind 0, 1, .. WEEKS: KINDS (bits)");
        OnlyTwoEnemies x = told("k000;k100;");
        what(x, 63, 1023);
        rowOf(x, 20);
        what(x, 63, 1023);
        rowOf(x, 19);
        what(x, 0, 0);
        rowOf(x, 0);
        what(x, 0, 0);
        rowOf(x, 20, 20);
        what(x, 2 + 16, 0);
        rowOf(x, 20, 21);
        what(x, 0, 0);
        rowOf(x, 20, 16);
        what(x, 0, 0);
        rowOf(x, 20, 17);
        what(x, 32, 0);
        rowOf(x, 20, 19);
        what(x, 1 + 8, 1023);
    }

    private static void whatKindFirstOfThem() {
        by("of the first of them by which it is so; FIGURES (bits 0 .. 9).");
        OnlyTwoEnemies x = told("k300;k490;");
        for (int figure = 0; figure <= 9; figure++) {
            rowOf(x, 20, 19 - figure / 2);
            due(x.whatKind(0, 1, 1), 3 << figure / 2 * 2);
            due(x.whatKind(1, 0, 1), figure < 2 ? 1023 : 0);
        }
        x.goes(0, 1);
        int[] sons = {15, 15, 15, 15, 240, 240, 240, 240, 768, 768};
        for (int figure = 0; figure <= 9; figure++) {
            rowOf(x, 20, 21 + figure / 4);
            due(x.whatKind(1, 0, 1), sons[figure]);
            due(x.whatKind(1, 0, 0), figure < 4 ? 2 : figure < 8 ? 0 : 16);
        }
        due(x.keeperOf(0, 1), 0);
        due(x.keeperOf(1, 1), 9);
        due(x.keeperOf(1, 0), 4);
    }

    private static void whatKindTwelve() {
        by(28, "WHAT KIND by the ROW (it stays): KINDS (what 0), FIGURES (1), bits.");
        OnlyTwoEnemies x = told("k000;k000;");
        rowOf(x, 20, 18, 16, 14, 12, 10, 8, 6, 4, 2, 0, 0);
        what(x, 1 + 8, 1023);
        due(x.count(6), 12);
        rowOf(x, 20, 18, 16, 14, 12, 10, 8, 6, 4, 2, 0, 1);
        what(x, 0, 0);
        due(x.count(6), 12);
        x.goes(0, 1);
        x.hates(0, 1, 97);
        rowOf(x, 97, 98, 99, 99, 99, 99, 99, 99, 99, 99, 99, 99);
        what(x, 2 + 16, 0);
        rowOf(x, 97, 98, 99, 99, 99, 99, 99, 99, 99, 99, 99, 98);
        what(x, 0, 0);
        due(x.clear(), 12);
    }

    private static BigInteger choose(int n, int k) {
        BigInteger ways = BigInteger.ONE;
        for (int i = 0; i < k; i++) {
            ways = ways.multiply(BigInteger.valueOf(n - i)).divide(BigInteger.valueOf(i + 1));
        }
        return ways;
    }

    private static void jug() {
        by("JUG: of n tests (0 .. 8) with a jug two who feign throw it with odds 1 in t (2 .. 20), each by itself: "
            + "how likely it is thrown k times (0 .. 8) or more: a fraction.");
        for (int t = 2; t <= 20; t++) {
            OnlyTwoEnemies x = new OnlyTwoEnemies();
            for (int n = 0; n <= 8; n++) {
                for (int k = 0; k <= 8; k++) {
                    BigInteger above = BigInteger.ZERO;
                    for (int thrown = k; thrown <= n; thrown++) {
                        above = above.add(choose(n, thrown).multiply(BigInteger.valueOf(t - 1).pow(n - thrown)));
                    }
                    BigInteger below = BigInteger.valueOf(t).pow(n);
                    BigInteger d = above.gcd(below);
                    fraction(x.jug(n, k, t, 0), x.jug(n, k, t, 1), above.divide(d).longValueExact(),
                        below.divide(d).longValueExact());
                }
            }
            due(refused(x), 0);
        }
    }

    private static void jugEdges() {
        by("(Fractions are told in lowest terms; 0 as 0 over 1.)");
        OnlyTwoEnemies x = new OnlyTwoEnemies();
        fraction(x.jug(0, 1, 20, 0), x.jug(0, 1, 20, 1), 0, 1);
        fraction(x.jug(7, 8, 20, 0), x.jug(7, 8, 20, 1), 0, 1);
        fraction(x.jug(8, 0, 20, 0), x.jug(8, 0, 20, 1), 1, 1);
        fraction(x.jug(0, 0, 2, 0), x.jug(0, 0, 2, 1), 1, 1);
        fraction(x.jug(2, 1, 2, 0), x.jug(2, 1, 2, 1), 3, 4);
        fraction(x.jug(3, 1, 4, 0), x.jug(3, 1, 4, 1), 37, 64);
        fraction(x.jug(3, 2, 4, 0), x.jug(3, 2, 4, 1), 5, 32);
        fraction(x.jug(8, 8, 20, 0), x.jug(8, 8, 20, 1), 1, 25600000000L);
        fraction(x.jug(8, 7, 20, 0), x.jug(8, 7, 20, 1), 153, 25600000000L);
    }

    private static void two() {
        by("TWO may make it up (1: their HATE is half, cut) or not (0), now: both must for that; "
            + "who makes it up in vain has 3 less; each wants what is best for him: PAY of his for 4 WEEKS, "
            + "less half (cut) of HATE of them behind 4 WEEKS: the first pair (10 the one's and the other's) "
            + "by which neither has more by another choice alone; -9.");
        // Who makes it up alone only has 3 less: neither does is such a pair whatever they are, and the first.
        for (int kind = 0; kind <= 5; kind++) {
            OnlyTwoEnemies x = told("k" + kind + "90;k000;k101;l200;");
            for (int hate : new int[] {0, 1, 2, 3, 50, 98, 99}) {
                x.hates(0, 1, hate);
                x.hates(0, 2, hate);
                due(x.two(0, 1), 0);
                due(x.two(1, 0), 0);
                due(x.two(0, 2), 0);
                due(x.two(2, 0), 0);
            }
            due(refused(x), 0);
        }
    }

    private static void meetings() {
        by("MEETINGS by chance: in each of n WEEKS (0 .. 7), by itself, with odds 1 in t (2 .. 20) two told ones meet");
        for (int n = 0; n <= 7; n++) {
            OnlyTwoEnemies x = told("k100;k100;h0130;l300;l200;l310;l210;l000;s4;");
            x.seals(1);
            x.seals(3);
            for (int t = 2; t <= 20; t++) {
                // 30 is opened unless they meet; nothing opens 31; what is OPEN stays so.
                fraction(x.meetings(0, 1, 0, n, t, 0), x.meetings(1, 0, 0, n, t, 1), n == 0 ? 0 : t - 1, n == 0 ? 1 : t);
                fraction(x.meetings(0, 1, 2, n, t, 0), x.meetings(0, 1, 2, n, t, 1), 0, 1);
                fraction(x.meetings(0, 1, 4, n, t, 0), x.meetings(0, 1, 4, n, t, 1), 1, 1);
            }
            due(refused(x), 0);
        }
        by("(their HATE 10 less, 0 at least, ahead of it): how likely a LETTER is OPEN behind these: a fraction.");
        for (int hate = 0; hate <= 99; hate++) {
            OnlyTwoEnemies x = told("k000;k100;l500;");
            x.hates(0, 1, hate);
            int above = hate >= 61 ? 1 : hate >= 51 ? 2 : 0;
            fraction(x.meetings(0, 1, 0, 1, 3, 0), x.meetings(0, 1, 0, 1, 3, 1), above, above == 2 ? 3 : 1);
            fraction(x.meetings(0, 1, 0, 7, 3, 0), x.meetings(0, 1, 0, 7, 3, 1), above, above == 2 ? 3 : 1);
        }
    }

    private static void meetingsZeroAtLeast() {
        by("(their HATE 10 less, 0 at least, ahead of it):");
        for (int hate = 0; hate <= 12; hate++) {
            OnlyTwoEnemies x = told("k100;k100;l000;l010;");
            x.hates(0, 1, hate);
            fraction(x.meetings(0, 1, 0, 1, 2, 0), x.meetings(0, 1, 0, 1, 2, 1), 1, 1);
            x.seals(0);
            int above = hate >= 1 ? 1 : 0;
            int below = hate >= 1 && hate <= 10 ? 2 : 1;
            fraction(x.meetings(0, 1, 1, 1, 2, 0), x.meetings(0, 1, 1, 1, 2, 1), above, below);
        }
        // Who meet need not be in one TOWN, and others may open it.
        OnlyTwoEnemies apart = told("k100;k101;k100;h0215;l100;");
        fraction(apart.meetings(0, 1, 0, 7, 2, 0), apart.meetings(0, 1, 0, 7, 2, 1), 1, 1);
        fraction(apart.meetings(0, 2, 0, 7, 2, 0), apart.meetings(0, 2, 0, 7, 2, 1), 1, 2);
    }

    private static void meetingsHelp() {
        by("MEETINGS by chance: in each of n WEEKS (0 .. 7), by itself, with odds 1 in t (2 .. 20) two told ones meet");
        // Who met open the first LETTER, so that 2 and 3 keep their hatred for the last.
        OnlyTwoEnemies x = told("k100;k100;k100;k100;h0128;h2325;l100;l270;l240;h0200;h0300;h1200;h1300;");
        due(x.then(60, 0), 3);
        for (int t = 2; t <= 20; t++) {
            fraction(x.meetings(0, 1, 2, 1, t, 0), x.meetings(0, 1, 2, 1, t, 1), 1, t);
            fraction(x.meetings(0, 1, 2, 7, t, 0), x.meetings(0, 1, 2, 7, t, 1), 1, t);
            fraction(x.meetings(0, 1, 1, 7, t, 0), x.meetings(0, 1, 1, 7, t, 1), t - 1, t);
            fraction(x.meetings(0, 1, 0, 7, t, 0), x.meetings(0, 1, 0, 7, t, 1), 1, 1);
        }
    }

    private static void meetingsEdges() {
        by("(Fractions are told in lowest terms; 0 as 0 over 1.)");
        OnlyTwoEnemies x = told("k100;k100;l200;l210;");
        fraction(x.meetings(0, 1, 0, 0, 20, 0), x.meetings(0, 1, 0, 0, 20, 1), 0, 1);
        fraction(x.meetings(0, 1, 1, 7, 20, 0), x.meetings(0, 1, 1, 7, 20, 1), 0, 1);
        fraction(x.meetings(0, 1, 0, 7, 20, 0), x.meetings(0, 1, 0, 7, 20, 1), 19, 20);
        fraction(x.meetings(0, 1, 0, 7, 2, 0), x.meetings(0, 1, 0, 7, 2, 1), 1, 2);
        x.seals(0);
        fraction(x.meetings(0, 1, 0, 0, 2, 0), x.meetings(0, 1, 0, 0, 2, 1), 1, 1);
        fraction(x.meetings(0, 1, 0, 7, 20, 0), x.meetings(0, 1, 0, 7, 20, 1), 1, 1);
    }

    private static void judged() {
        by("A ROW of numbers (0 .. 99; 12 at most): JUDGED: HATE of one with KEEPERS 0, 1, .. (0 with himself): "
            + "the first that is not so (nobody there, too); -9.");
        OnlyTwoEnemies x = told(SIX_BROTHERS);
        for (int two : TWOS) {
            x.hates(two / 10, two % 10, 2 * two + 1);
        }
        for (int keeper = 0; keeper < 6; keeper++) {
            for (int wrong = 0; wrong <= 6; wrong++) {
                for (int i = 0; i < 6; i++) {
                    int hate = i == keeper ? 0 : x.hate(i, keeper);
                    x.row(i == wrong ? hate + 1 : hate);
                }
                due(x.count(6), 6);
                due(x.judge(keeper), wrong < 6 ? wrong : -9);
                due(x.count(6), 0);
            }
            x = told(SIX_BROTHERS);
            for (int two : TWOS) {
                x.hates(two / 10, two % 10, 2 * two + 1);
            }
        }
        OnlyTwoEnemies y = told("k000;k000;");
        rowOf(y, 0, 20, 0);
        due(y.judge(0), 2);
        rowOf(y, 20, 0, 0, 0, 0, 0, 0, 0, 0, 0, 0, 0);
        due(y.judge(1), 2);
        rowOf(y, 20, 1, 0);
        due(y.judge(1), 1);
        OnlyTwoEnemies six = told(SIX_BROTHERS);
        rowOf(six, 0, 20, 20, 20, 20, 20, 0, 0, 0, 0, 0, 0);
        due(six.judge(0), 6);
    }

    private static void judgedEmpty() {
        by("the first that is not so (nobody there, too); -9.");
        OnlyTwoEnemies x = told("k000;k000;");
        due(x.judge(0), -9);
        due(x.judge(1), -9);
        due(x.judge(2), -1);
        rowOf(x, 0);
        due(x.judge(0), -9);
        rowOf(x, 0, 20);
        due(x.judge(2), -1);
        due(x.count(6), 2);
        due(x.judge(0), -9);
        due(x.count(6), 0);
        due(new OnlyTwoEnemies().judge(0), -1);
    }

    /** LOTS by the calls of a second object: LETTERS more, and HATE. */
    private static int[] lots(String land, int n, int z) {
        BigInteger whole = BigInteger.ONE.shiftLeft(32);
        BigInteger seed = BigInteger.valueOf(z).mod(whole);
        int[] told = new int[2];
        for (int i = 0; i < n; i++) {
            OnlyTwoEnemies y = told(land);
            int open = Integer.bitCount(y.count(3));
            for (int one = 0; one < y.count(0); one++) {
                for (int other = one + 1; other < y.count(0); other++) {
                    seed = seed.multiply(BigInteger.valueOf(1103515245)).add(BigInteger.valueOf(12345)).mod(whole);
                    int draw = seed.clearBit(31).shiftRight(16).intValueExact() % 60;
                    y.hates(one, other, draw);
                }
            }
            told[0] += y.weeks(10) - open;
            told[1] += y.count(4);
        }
        return told;
    }

    private static void lotsBySeed() {
        by("LOTS with a seed z: n countries (1 .. 20), each from now: HATE of each two (0 and 1, 0 and 2, .., 1 and 2, ..) "
            + "a DRAW below 60, then 10 WEEKS: LETTERS OPEN more of all; all HATE then of all.");
        String land = "k100;k000;k120;k481;k550;k391;l100;l300;l401;l200;l002;s3;";
        OnlyTwoEnemies x = told(land);
        for (int n : new int[] {1, 2, 3, 19, 20}) {
            for (int z : new int[] {0, 1, -1, 5, 12345, -12345, 65536, MIN, MAX, MIN + 1, 1 << 30, -(1 << 30)}) {
                int[] told = lots(land, n, z);
                due(x.lots(n, z, 0), told[0]);
                due(x.lots(n, z, 1), told[1]);
            }
        }
        due(x.lots(0, 0, 0), -4);
        due(x.lots(21, 0, 0), -6);
        due(x.count(4), 300);
        due(x.count(2), 0);
    }

    private static void lotsLetters() {
        by("LETTERS OPEN more of all;");
        OnlyTwoEnemies x = new OnlyTwoEnemies();
        due(x.lots(20, 7, 0), 0);
        due(x.lots(20, 7, 1), 0);
        tell(x, "l000;l000;l000;l000;l000;l000;k100;");
        due(x.lots(20, 7, 0), 0);
        due(x.lots(20, 7, 1), 0);
        x.keeper(1, 0, 0);
        due(x.lots(20, 7, 0), 120);
        due(x.lots(1, 7, 0), 6);
        x.seals(0);
        due(x.lots(20, 7, 0), 100);
        until(x, 999);
        for (int letter = 1; letter <= 5; letter++) {
            x.seals(letter);
        }
        due(x.lots(20, 7, 0), 100);
        due(x.count(2), 999);
    }

    private static void drawsWrap() {
        by("DRAWS: z becomes z times 1103515245 plus 12345 (an int, wrapping); a DRAW below n is "
            + "(z without its sign's bit, over 65536, cut) modulo n.");
        // Two who neither fade nor open anything HATE each other what was drawn.
        OnlyTwoEnemies x = told("k100;k100;");
        int[] seeds = {0, 1, 2, -1, -2, 1000, MAX, MIN, 777777777, -777777777};
        for (int seed : seeds) {
            long z = seed;
            long sum = 0;
            for (int n = 1; n <= 20; n++) {
                z = (z * 1103515245L + 12345L) % (1L << 32);
                long bare = (z + (1L << 32)) % (1L << 31);
                sum += bare / 65536 % 60;
                due(x.lots(n, seed, 1), sum);
            }
        }
        // 0 becomes 12345: below 65536. 1 becomes 1103527590: 16838 over 65536, and 38 modulo 60.
        due(x.lots(1, 0, 1), 0);
        due(x.lots(1, 1, 1), 38);
        // -1 becomes -1103502900: 1043980748 without its sign's bit, 15929 over 65536, and 29 modulo 60.
        due(x.lots(1, -1, 1), 29);
    }
}
