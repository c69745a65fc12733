import java.util.List;

/** The edges of a land told in letters, sentence by sentence. */
public final class LandEdgeTest extends Edges {
    /** The digits behind each letter that a STATEMENT begins with. */
    private static final String BEGINS = "khlgsw";
    private static final int[] DIGITS = {3, 4, 3, 2, 1, 2};
    /** One right STATEMENT of each, for a country of two KEEPERS and two LETTERS. */
    private static final String[] RIGHT = {"k123;", "h0145;", "l271;", "g03;", "s1;", "w07;"};

    public static void main(String[] args) {
        all();
        end("the edges of a LAND hold");
    }

    static void all() {
        letterByLetter();
        feedLeast();
        feedMost();
        ninetySix();
        landOfNinetySix();
        semicolonBehindEach();
        keepers();
        keepersRoom();
        hatreds();
        letters();
        lettersRoom();
        goings();
        sealings();
        weeks();
        weeksToTheLast();
        atLeastOne();
        brokenAtEachPlace();
        brokenBehindAStatement();
        somethingLacks();
        brokenAheadOfFalse();
        falsePlace();
        falseKinds();
        behindAllAhead();
        allOfItComes();
        withOneNothing();
        lettersNoMore();
        howManyStatements();
        nothingIsCounted();
    }

    /** Two BROTHERS in TOWNS 0 and 1, two LETTERS. */
    private static OnlyTwoEnemies two() {
        return told("k100;k101;l050;l991;");
    }

    private static void letterByLetter() {
        by("A LAND is told in letters, one by one (96 at most):");
        OnlyTwoEnemies x = new OnlyTwoEnemies();
        due(x.count(5), 0);
        for (int i = 1; i <= 96; i++) {
            due(x.feed('0' + i % 10), i);
            due(x.count(5), i);
        }
        due(x.feed('0'), -6);
        due(x.count(5), 96);
        due(x.land(), -1000);
        due(x.count(5), 0);
        due(x.feed('0'), 1);
    }

    private static void feedLeast() {
        by(2, "A letter comes: how many there are. -4;");
        OnlyTwoEnemies x = new OnlyTwoEnemies();
        due(x.feed(-1), -4);
        due(x.feed(MIN), -4);
        due(x.count(5), 0);
        due(x.feed(0), 1);
        due(x.feed(-1), -4);
        due(x.count(5), 1);
        due(x.count(14), 3);
        due(refused(x), 3);
    }

    private static void feedMost() {
        by(2, "-6 (255;");
        OnlyTwoEnemies x = new OnlyTwoEnemies();
        due(x.feed(255), 1);
        due(x.feed(256), -6);
        due(x.feed(MAX), -6);
        due(x.feed(254), 2);
        due(x.count(5), 2);
        due(x.count(16), 2);
        due(refused(x), 2);
        due(x.land(), -1000);
    }

    private static void ninetySix() {
        by(2, "96, too).");
        OnlyTwoEnemies x = new OnlyTwoEnemies();
        fed(x, times(95, "s"));
        due(x.feed('0'), 96);
        due(x.feed('0'), -6);
        due(x.feed(0), -6);
        due(x.feed(255), -6);
        due(x.feed(256), -6);
        due(x.feed(-1), -4);
        due(x.count(5), 96);
        due(x.count(14), 1);
        due(x.count(16), 4);
        due(refused(x), 5);
    }

    private static void landOfNinetySix() {
        by("A LAND is told in letters, one by one (96 at most):");
        OnlyTwoEnemies x = new OnlyTwoEnemies();
        fed(x, times(24, "w01;"));
        due(x.feed('w'), -6);
        due(x.land(), 24);
        due(x.count(2), 24);
        ninetySixTold("h0103;", 16, 3);
        ninetySixTold("h01034", -1095, 20);
        ninetySixTold("h0203;", -2090, 20);
        ninetySixTold("w01;w0", -1096, 20);
        ninetySixTold("w01;s0", -1096, 20);
        ninetySixTold("w01;g0", -1096, 20);
        ninetySixTold("w01;w;", -1095, 20);
    }

    /** Fifteen right STATEMENTS of six letters, and six letters more. */
    private static void ninetySixTold(String last, int answer, int hate) {
        OnlyTwoEnemies x = told("k000;k000;");
        fed(x, times(15, "h0102;") + last);
        due(x.count(5), 96);
        due(x.feed(';'), -6);
        due(x.land(), answer);
        due(x.hate(0, 1), hate);
    }

    private static void semicolonBehindEach() {
        by("STATEMENTS, each with \";\" behind:");
        for (int i = 0; i < RIGHT.length; i++) {
            due(tell(two(), RIGHT[i]), 1);
            due(tell(two(), RIGHT[i] + RIGHT[i]), 2);
            String bare = RIGHT[i].substring(0, RIGHT[i].length() - 1);
            due(tell(two(), bare), -1000 - bare.length());
            due(tell(two(), bare + RIGHT[i]), -1000 - bare.length());
            due(tell(two(), RIGHT[i] + ";"), -1000 - RIGHT[i].length());
            due(tell(two(), ";" + RIGHT[i]), -1000);
        }
    }

    private static void keepers() {
        by("\"k\" KIND, FIGURE, a TOWN (a digit each): a KEEPER more;");
        for (int i = 0; i < 1000; i++) {
            OnlyTwoEnemies x = two();
            boolean right = i / 100 <= 5 && i % 10 <= 3;
            due(tell(x, "k" + i / 100 + i / 10 % 10 + i % 10 + ";"), right ? 1 : -2000);
            due(x.count(0), right ? 3 : 2);
            due(x.keeperOf(2, 0), right ? i / 100 : -1);
            due(x.keeperOf(2, 1), right ? i / 10 % 10 : -1);
            due(x.keeperOf(2, 2), right ? i % 10 : -1);
            due(x.hate(0, 2), right ? 20 : -1);
            due(x.hate(1, 2), right ? 20 : -1);
        }
    }

    private static void keepersRoom() {
        by("\"k\" KIND, FIGURE, a TOWN (a digit each): a KEEPER more;");
        OnlyTwoEnemies x = new OnlyTwoEnemies();
        due(tell(x, times(7, "k000;")), -2030);
        due(x.count(0), 0);
        due(tell(x, times(6, "k593;")), 6);
        due(x.count(0), 6);
        due(x.count(4), 300);
        due(tell(x, "k000;"), -2000);
        due(tell(x, "w01;k000;"), -2004);
        due(x.count(0), 6);
        due(x.count(2), 0);
    }

    private static void hatreds() {
        by("\"h\" two (a digit each), HATE (2 digits);");
        for (int i = 0; i < 100; i++) {
            OnlyTwoEnemies x = told("k000;k000;k001;");
            boolean right = i / 10 <= 2 && i % 10 <= 2 && i / 10 != i % 10;
            due(tell(x, "h" + i / 10 + i % 10 + (i < 10 ? "0" : "") + i + ";"), right ? 1 : -2000);
            due(x.count(4), right ? 40 + i : 60);
            due(right ? x.hate(i % 10, i / 10) : i, i);
        }
        OnlyTwoEnemies x = told("k000;k001;");
        due(tell(x, "h0100;"), 1);
        due(x.hate(0, 1), 0);
        due(tell(x, "h1099;"), 1);
        due(x.hate(0, 1), 99);
        due(tell(x, "h0110;h0109;"), 2);
        due(x.hate(0, 1), 9);
    }

    private static void letters() {
        by("\"l\" DEPTH (2 digits), a TOWN (a digit): a LETTER more;");
        for (int i = 0; i < 1000; i++) {
            OnlyTwoEnemies x = two();
            boolean right = i % 10 <= 3;
            due(tell(x, "l" + i / 100 + i / 10 % 10 + i % 10 + ";"), right ? 1 : -2000);
            due(x.count(1), right ? 3 : 2);
            due(x.letterOf(2, 0), right ? i / 10 : -1);
            due(x.letterOf(2, 1), right ? i % 10 : -1);
            due(x.letterOf(2, 2), right ? 0 : -1);
        }
    }

    private static void lettersRoom() {
        by("\"l\" DEPTH (2 digits), a TOWN (a digit): a LETTER more;");
        OnlyTwoEnemies x = new OnlyTwoEnemies();
        due(tell(x, times(7, "l000;")), -2030);
        due(x.count(1), 0);
        due(tell(x, times(6, "l993;")), 6);
        due(x.count(1), 6);
        due(tell(x, "l000;"), -2000);
        due(tell(x, "s5;l000;"), -2003);
        due(x.count(1), 6);
        due(x.count(3), 0);
    }

    private static void goings() {
        by("\"g\" a KEEPER, a TOWN (a digit each): he goes there;");
        for (int i = 0; i < 100; i++) {
            OnlyTwoEnemies x = two();
            boolean right = i / 10 <= 1 && i % 10 <= 3;
            due(tell(x, "g" + i / 10 + i % 10 + ";"), right ? 1 : -2000);
            due(x.keeperOf(0, 2), right && i / 10 == 0 ? i % 10 : 0);
            due(x.keeperOf(1, 2), right && i / 10 == 1 ? i % 10 : 1);
        }
    }

    private static void sealings() {
        by("\"s\" a LETTER (a digit): SEALED again, or, if it is, OPEN;");
        for (int i = 0; i < 10; i++) {
            OnlyTwoEnemies x = two();
            due(tell(x, "s" + i + ";"), i <= 1 ? 1 : -2000);
            due(x.count(3), i <= 1 ? 1 << i : 0);
            due(tell(x, "s" + i + ";"), i <= 1 ? 1 : -2000);
            due(x.count(3), 0);
        }
        OnlyTwoEnemies six = told("l000;l000;l000;l000;l000;l000;");
        due(tell(six, "s5;s4;s3;s2;s1;s0;"), 6);
        due(six.count(3), 63);
        due(tell(six, "s5;s5;s0;"), 3);
        due(six.count(3), 62);
        due(tell(six, "s6;"), -2000);
    }

    private static void weeks() {
        by("\"w\" WEEKS (2 digits, 1 .. 60).");
        for (int i = 0; i < 100; i++) {
            OnlyTwoEnemies x = two();
            boolean right = i >= 1 && i <= 60;
            due(tell(x, "w" + i / 10 + i % 10 + ";"), right ? 1 : -2000);
            due(x.count(2), right ? i : 0);
            due(x.hate(0, 1), right ? Math.min(99, 20 + 2 * i) : 20);
        }
        OnlyTwoEnemies x = told("k100;k100;l200;l160;l150;");
        due(tell(x, "w01;"), 1);
        due(x.count(3), 5);
        due(x.hate(0, 1), 10);
    }

    private static void weeksToTheLast() {
        by("WEEK above 999,");
        OnlyTwoEnemies x = new OnlyTwoEnemies();
        until(x, 939);
        due(tell(x, "w60;w01;"), -2004);
        due(x.count(2), 939);
        due(tell(x, "w60;"), 1);
        due(x.count(2), 999);
        due(tell(x, "w01;"), -2000);
        due(tell(x, "w60;"), -2000);
        due(tell(x, "l000;"), 1);
        OnlyTwoEnemies y = new OnlyTwoEnemies();
        until(y, 940);
        due(tell(y, "w60;"), -2000);
        due(tell(y, "w59;"), 1);
        due(y.count(2), 999);
        OnlyTwoEnemies z = new OnlyTwoEnemies();
        due(tell(z, times(16, "w60;") + "w40;"), -2064);
        due(z.count(2), 0);
        due(tell(z, times(16, "w60;") + "w39;"), 17);
        due(z.count(2), 999);
    }

    private static void atLeastOne() {
        by("At least one STATEMENT.");
        OnlyTwoEnemies x = new OnlyTwoEnemies();
        due(x.land(), -1000);
        due(tell(x, "w01;"), 1);
        due(x.land(), -1000);
        due(x.count(2), 1);
    }

    /** The signs of one place, of which those that go on are told: all others are a FAULT there. */
    private static void onlyThese(String ahead, String goOn) {
        OnlyTwoEnemies x = two();
        int calls = 0;
        for (int sign = 0; sign <= 255; sign++) {
            if (calls > 400) {
                x = two();
                calls = 0;
            }
            fed(x, ahead);
            due(x.feed(sign), ahead.length() + 1);
            int place = goOn.indexOf((char) sign) >= 0 ? ahead.length() + 1 : ahead.length();
            boolean whole = sign == ';' && goOn.equals(";");
            due(x.land(), whole ? 1 : -1000 - place);
            calls += ahead.length() + 2;
        }
    }

    private static void brokenAtEachPlace() {
        by("FAULT: kind 1 the place of the first letter with which no LAND can go on");
        onlyThese("", BEGINS);
        for (int i = 0; i < BEGINS.length(); i++) {
            for (int place = 1; place <= DIGITS[i]; place++) {
                onlyThese(RIGHT[i].substring(0, place), "0123456789");
            }
            onlyThese(RIGHT[i].substring(0, DIGITS[i] + 1), ";");
        }
    }

    private static void brokenBehindAStatement() {
        by("FAULT: kind 1 the place of the first letter with which no LAND can go on");
        OnlyTwoEnemies x = two();
        for (String right : RIGHT) {
            for (String wrong : new String[] {"x", ";", "0", "K", " ", "\0", "\u00ff", "x;", "x000;", "\n"}) {
                due(tell(x, right + wrong), -1000 - right.length());
            }
            if (x.count(5) != 0) {
                fault("letters are left");
            }
            x = two();
        }
        // The first of several.
        due(tell(x, "k0x0;x"), -1002);
        due(tell(x, "k000;h01x0;x"), -1008);
    }

    private static void somethingLacks() {
        by("(the end, if something lacks): -1000 less the place;");
        for (String ahead : new String[] {"", "w01;", "k123;h0145;"}) {
            for (String right : RIGHT) {
                OnlyTwoEnemies x = two();
                for (int place = 1; place < right.length(); place++) {
                    due(tell(x, ahead + right.substring(0, place)), -1000 - ahead.length() - place);
                }
                due(x.count(2), 0);
                due(tell(x, ahead + right), ahead.isEmpty() ? 1 : ahead.length() == 4 ? 2 : 3);
            }
        }
    }

    private static void brokenAheadOfFalse() {
        by("else kind 2");
        OnlyTwoEnemies x = two();
        due(tell(x, "k600;x"), -1005);
        due(tell(x, "w00;s9;g99"), -1010);
        due(tell(x, "l009;l009"), -1009);
        due(tell(x, "w00;s9;g99;"), -2000);
        due(tell(x, "k6000;"), -1004);
        due(tell(x, "w99x"), -1003);
    }

    private static void falsePlace() {
        by("the place of the first letter of the first STATEMENT that, behind all ahead of it in the text, "
            + "is not as it must be");
        OnlyTwoEnemies x = two();
        due(tell(x, "w00;w00;"), -2000);
        due(tell(x, "w01;w00;w61;"), -2004);
        due(tell(x, "s0;w01;g24;g25;"), -2007);
        due(tell(x, "h0150;k000;l100;g20;s2;w60;k006;"), -2027);
        due(tell(x, times(31, "s0;") + "s2;"), -2093);
        due(x.count(3), 0);
    }

    private static void falseKinds() {
        by("(a number out of range, no such one, one twice, WEEK above 999, no room): -2000 less the place.");
        OnlyTwoEnemies x = two();
        for (String wrong : new String[] {"k600;", "k900;", "k004;", "k009;", "l004;", "l999;", "g04;", "g09;", "w00;", "w61;",
            "w99;", "h0250;", "h2050;", "h0950;", "g20;", "g90;", "s2;", "s9;", "h0050;", "h1150;", "h2250;"}) {
            due(tell(x, wrong), -2000);
            due(tell(x, "s1;" + wrong), -2003);
        }
        OnlyTwoEnemies full = told("k000;k000;k000;k000;k000;k000;l000;l000;l000;l000;l000;l000;");
        until(full, 999);
        for (String wrong : new String[] {"k000;", "l000;", "w01;"}) {
            due(tell(full, wrong), -2000);
            due(tell(full, "g53;s5;" + wrong), -2007);
        }
        due(tell(full, "h4500;g53;s5;"), 3);
    }

    private static void behindAllAhead() {
        by("behind all ahead of it in the text");
        OnlyTwoEnemies x = new OnlyTwoEnemies();
        due(tell(x, "h0150;k000;k000;"), -2000);
        due(tell(x, "k000;h0150;k000;"), -2005);
        due(tell(x, "k000;k000;h0150;"), 3);
        due(tell(x, "s0;l000;"), -2000);
        due(tell(x, "l000;s0;s0;"), 3);
        due(tell(x, "g20;k000;"), -2000);
        due(tell(x, "k000;g23;"), 2);
        due(x.keeperOf(2, 2), 3);
        due(x.count(0), 3);
        due(x.count(1), 1);
    }

    private static void allOfItComes() {
        by("Without FAULT all of it comes,");
        OnlyTwoEnemies x = told("k100;k100;h0130;l300;l250;w01;s0;g13;w02;k593;h2177;l001;");
        OnlyTwoEnemies y = new OnlyTwoEnemies();
        y.keeper(1, 0, 0);
        y.keeper(1, 0, 0);
        y.hates(0, 1, 30);
        y.letter(0, 30);
        y.letter(0, 25);
        y.weeks(1);
        y.seals(0);
        y.goes(1, 3);
        y.weeks(2);
        y.keeper(5, 9, 3);
        y.hates(1, 2, 77);
        y.letter(1, 0);
        same(country(x), country(y));
        due(x.count(2), 3);
        due(x.count(3), 2);
        due(x.hate(0, 1), 24);
    }

    private static void withOneNothing() {
        by("with one nothing.");
        OnlyTwoEnemies x = told("k100;k101;l050;l991;w03;");
        x.hates(0, 1, 50);
        x.goes(1, 0);
        x.image();
        x.row(7);
        List<Long> was = country(x);
        for (String all : new String[] {"k123;h0145;l271;g03;s1;w07;", "s0;s1;w60;", "g13;k000;"}) {
            due(tell(x, all + "w00;"), -2000 - all.length());
            same(country(x), was);
            due(tell(x, all + "w0"), -1002 - all.length());
            same(country(x), was);
        }
        due(x.count(6), 1);
        due(x.count(7), 2);
        due(x.back(), 1);
        due(x.keeperOf(1, 2), 1);
        due(x.restore(), 3);
        due(x.keeperOf(1, 2), 0);
    }

    private static void lettersNoMore() {
        by(3, "The letters, which are no more then (with a FAULT neither), are a LAND:");
        OnlyTwoEnemies x = two();
        for (String text : new String[] {"w01;", "w00;", "w0", "x", ""}) {
            fed(x, text);
            due(x.count(5), text.length());
            x.land();
            due(x.count(5), 0);
            due(x.land(), -1000);
        }
        due(tell(x, "w01;"), 1);
        due(x.count(2), 2);
    }

    private static void howManyStatements() {
        by(3, "how many STATEMENTS;");
        for (int many = 1; many <= 32; many++) {
            due(tell(two(), times(many, "s0;")), many);
        }
        for (int many = 1; many <= 19; many++) {
            due(tell(two(), times(many, "l000;")), many <= 4 ? many : -2020);
        }
    }

    private static void nothingIsCounted() {
        by(3, "the FAULT (nothing is counted).");
        OnlyTwoEnemies x = two();
        for (String wrong : new String[] {"", "x", "k", "k600;", "h0199", "h0099;", "l004;", "g20;", "s9;", "w00;", "w99;"}) {
            due(tell(x, wrong) < 0 ? 1 : 0, 1);
        }
        for (int what = 11; what <= 16; what++) {
            due(x.count(what), 0);
        }
    }
}
