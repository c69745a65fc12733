/** The edges of towns, keepers, kinds, hatred, letters and weeks, sentence by sentence. */
public final class TermsEdgeTest extends Edges {
    private static final int[] WRONG_TOWNS = {-1, 4, 5, MIN, MAX};
    private static final int[] LOVER_FADES = {1, 1, 2, 2, 3, 3, 4, 4, 5, 5};
    private static final int[] SON_STIRS = {1, 1, 1, 1, 2, 2, 2, 2, 3, 3};

    public static void main(String[] args) {
        all();
        end("the edges of the Terms hold");
    }

    static void all() {
        towns();
        keepers();
        sixOfAKind();
        figures();
        hateOfEachTwo();
        letters();
        depths();
        sealedAtFirst();
        week();
        fades();
        stirs();
        pays();
        opensInItsTown();
        opensItsDepthOrMore();
        opensOfLeastHate();
        opensTheFirstOfSeveral();
        opensNone();
        aWeekMore();
        fadesToNothing();
        stirsToTheMost();
        fadesOrStirs();
        lettersByNumbers();
        sealedOnly();
        fiveLess();
        nobodyInAWeek();
    }

    private static void towns() {
        by("TOWNS 0 .. 3 (4).");
        OnlyTwoEnemies x = new OnlyTwoEnemies();
        for (int town = 0; town <= 3; town++) {
            due(x.keeper(0, 0, town), town);
            due(x.letter(town, 0), town);
            due(x.keeperOf(town, 2), town);
            due(x.letterOf(town, 1), town);
            due(x.goes(0, town), Math.max(0, town - 1));
            due(x.deepest(town), town == 0 ? -9 : 20);
            due(x.pay(town, 1), town == 0 ? 1 : 2);
        }
        due(x.keeperOf(0, 2), 3);
        for (int town : WRONG_TOWNS) {
            due(x.keeper(0, 0, town), -1);
            due(x.letter(town, 0), -1);
            due(x.goes(0, town), -1);
            due(x.deepest(town), -1);
            due(x.pay(town, 1), town == -1 ? 4 : -1);
        }
        due(x.count(0), 4);
        due(x.count(1), 4);
        due(x.keeperOf(0, 2), 3);
        due(x.count(11), 5 * 5 - 1);
    }

    private static void keepers() {
        by("KEEPERS 0 .. 5 as they come (6 at most)");
        OnlyTwoEnemies x = new OnlyTwoEnemies();
        for (int i = 0; i < 6; i++) {
            due(x.keeperOf(i, 0), -1);
            due(x.keeper(5 - i, 9 - i, i % 4), i);
            due(x.count(0), i + 1);
        }
        due(x.keeper(0, 0, 0), -6);
        due(x.count(0), 6);
        due(x.count(16), 1);
        for (int i = 0; i < 6; i++) {
            due(x.keeperOf(i, 0), 5 - i);
            due(x.keeperOf(i, 1), 9 - i);
            due(x.keeperOf(i, 2), i % 4);
        }
        due(x.keeperOf(6, 0), -1);
    }

    private static void sixOfAKind() {
        by("of KINDS: 0 KEEPER; 1 BROTHER under KEEPER; 2 HIRED under KEEPER; 3 LOVER under KEEPER; 4 SON under BROTHER; "
            + "5 OLD under HIRED:");
        for (int kind = 0; kind <= 5; kind++) {
            OnlyTwoEnemies x = new OnlyTwoEnemies();
            for (int i = 0; i < 6; i++) {
                due(x.keeper(kind, i, 0), i);
                due(x.keeperOf(i, 0), kind);
            }
            due(x.keeper(kind, 0, 0), -6);
        }
        OnlyTwoEnemies x = new OnlyTwoEnemies();
        for (int kind : new int[] {-1, 6, MIN, MAX}) {
            due(x.keeper(kind, 0, 0), -2);
        }
        due(x.count(12), 4);
        due(x.count(0), 0);
    }

    private static void figures() {
        by("a FIGURE (0 .. 9), a TOWN.");
        OnlyTwoEnemies x = new OnlyTwoEnemies();
        due(x.keeper(0, 0, 0), 0);
        due(x.keeper(0, 9, 3), 1);
        due(x.keeperOf(0, 1), 0);
        due(x.keeperOf(1, 1), 9);
        due(x.keeper(0, -1, 0), -4);
        due(x.keeper(0, MIN, 0), -4);
        due(x.keeper(0, 10, 0), -6);
        due(x.keeper(0, MAX, 0), -6);
        due(x.count(0), 2);
    }

    private static void hateOfEachTwo() {
        by("HATE of each two (0 .. 99; 20 at first).");
        OnlyTwoEnemies x = new OnlyTwoEnemies();
        for (int i = 0; i < 6; i++) {
            x.keeper(0, 0, i % 4);
            for (int other = 0; other < i; other++) {
                due(x.hate(other, i), 20);
                due(x.hate(i, other), 20);
                due(x.hates(i, other, 10 * i + other), 20);
            }
        }
        for (int i = 0; i < 6; i++) {
            for (int other = 0; other < i; other++) {
                due(x.hate(other, i), 10 * i + other);
            }
        }
        due(x.hates(0, 1, 0), 10);
        due(x.hates(0, 1, 99), 0);
        due(x.hates(0, 1, -1), -4);
        due(x.hates(0, 1, MIN), -4);
        due(x.hates(0, 1, 100), -6);
        due(x.hates(0, 1, MAX), -6);
        due(x.hate(0, 1), 99);
    }

    private static void letters() {
        by("LETTERS 0 .. 5 as they come (6 at most):");
        OnlyTwoEnemies x = new OnlyTwoEnemies();
        for (int i = 0; i < 6; i++) {
            due(x.letterOf(i, 0), -1);
            due(x.letter(i % 4, 90 + i), i);
            due(x.count(1), i + 1);
        }
        due(x.letter(0, 0), -6);
        due(x.count(1), 6);
        due(x.count(16), 1);
        for (int i = 0; i < 6; i++) {
            due(x.letterOf(i, 0), 90 + i);
            due(x.letterOf(i, 1), i % 4);
        }
        due(x.letterOf(6, 0), -1);
    }

    private static void depths() {
        by("a DEPTH (0 .. 99), a TOWN,");
        OnlyTwoEnemies x = new OnlyTwoEnemies();
        due(x.letter(0, 0), 0);
        due(x.letter(3, 99), 1);
        due(x.letterOf(0, 0), 0);
        due(x.letterOf(1, 0), 99);
        due(x.letter(0, -1), -4);
        due(x.letter(0, MIN), -4);
        due(x.letter(0, 100), -6);
        due(x.letter(0, MAX), -6);
        due(x.count(1), 2);
    }

    private static void sealedAtFirst() {
        by("SEALED (at first) or OPEN.");
        OnlyTwoEnemies x = new OnlyTwoEnemies();
        for (int i = 0; i < 6; i++) {
            x.letter(0, 0);
            due(x.letterOf(i, 2), 0);
        }
        due(x.count(3), 0);
        for (int i = 0; i < 6; i++) {
            due(x.seals(i), 1);
            due(x.letterOf(i, 2), 1);
            due(x.count(3), (1 << i + 1) - 1);
        }
        for (int i = 0; i < 6; i++) {
            due(x.seals(i), 0);
            due(x.letterOf(i, 2), 0);
        }
        due(x.count(3), 0);
    }

    private static void week() {
        by("WEEK (0 .. 999; 0 at first).");
        OnlyTwoEnemies x = new OnlyTwoEnemies();
        due(x.count(2), 0);
        until(x, 998);
        due(x.count(2), 998);
        due(x.weeks(2), -6);
        due(x.weeks(1), 0);
        due(x.count(2), 999);
        due(x.weeks(1), -6);
        due(x.weeks(60), -6);
        due(x.count(2), 999);
        due(x.image(), 999);
    }

    private static OnlyTwoEnemies one(int kind, int figure) {
        OnlyTwoEnemies x = new OnlyTwoEnemies();
        due(x.keeper(kind, figure, 0), 0);
        return x;
    }

    /** What all FIGURES of a kind have (3 FADES, 4 STIRS, 5 PAY). */
    private static void allFigures(int kind, int what, int... figures) {
        for (int figure = 0; figure <= 9; figure++) {
            due(one(kind, figure).keeperOf(0, what), figures[figure % figures.length]);
        }
    }

    private static void fades() {
        by("FADES: KEEPER 1;");
        allFigures(0, 3, 1);
        by("BROTHER 0;");
        allFigures(1, 3, 0);
        by("HIRED 2;");
        allFigures(2, 3, 2);
        by("LOVER FIGURE over 2, cut, plus 1;");
        allFigures(3, 3, LOVER_FADES);
        by("SON as a BROTHER;");
        allFigures(4, 3, 0);
        by("OLD 1 more than a HIRED.");
        allFigures(5, 3, 3);
    }

    private static void stirs() {
        by("STIRS: KEEPER 0;");
        allFigures(0, 4, 0);
        by("BROTHER 1;");
        allFigures(1, 4, 1);
        by("LOVER 0;");
        allFigures(3, 4, 0);
        by("SON FIGURE over 4, cut, more than a BROTHER;");
        allFigures(4, 4, SON_STIRS);
        by("others as a KEEPER.");
        allFigures(2, 4, 0);
        allFigures(5, 4, 0);
    }

    private static void pays() {
        by("PAY (a week): KEEPER FIGURE plus 1;");
        allFigures(0, 5, 1, 2, 3, 4, 5, 6, 7, 8, 9, 10);
        by("BROTHER twice;");
        allFigures(1, 5, 2, 4, 6, 8, 10, 12, 14, 16, 18, 20);
        by("HIRED 5;");
        allFigures(2, 5, 5);
        by("LOVER 0; SON 1 less than a BROTHER;");
        allFigures(3, 5, 0);
        allFigures(4, 5, 1, 3, 5, 7, 9, 11, 13, 15, 17, 19);
        by("OLD half of a HIRED's, cut.");
        allFigures(5, 5, 2);
    }

    private static void opensInItsTown() {
        by("OPENS (a LETTER): of the twos both in its TOWN");
        OnlyTwoEnemies x = told("k100;k100;l000;l001;l002;l003;");
        for (int one = 0; one <= 3; one++) {
            x.goes(0, one);
            for (int other = 0; other <= 3; other++) {
                x.goes(1, other);
                for (int letter = 0; letter <= 3; letter++) {
                    due(x.letterOf(letter, 3), one == letter && other == letter ? 1 : -9);
                }
            }
        }
    }

    private static void opensItsDepthOrMore() {
        by("who HATE each other its DEPTH or more");
        OnlyTwoEnemies x = told("k100;k100;l000;l010;l500;l980;l990;");
        int[] depths = {0, 1, 50, 98, 99};
        for (int v : new int[] {0, 1, 2, 49, 50, 51, 97, 98, 99}) {
            x.hates(1, 0, v);
            for (int letter = 0; letter < depths.length; letter++) {
                due(x.letterOf(letter, 3), v >= depths[letter] ? 1 : -9);
            }
        }
    }

    private static void opensOfLeastHate() {
        by("that with the least HATE,");
        OnlyTwoEnemies x = told("k100;k100;k100;h0199;h0298;h1297;l970;l000;");
        due(x.letterOf(0, 3), 12);
        due(x.letterOf(1, 3), 12);
        x.hates(1, 2, 96);
        due(x.letterOf(0, 3), 2);
        due(x.letterOf(1, 3), 12);
        x.hates(0, 2, 0);
        due(x.letterOf(0, 3), 1);
        due(x.letterOf(1, 3), 2);
    }

    private static void opensTheFirstOfSeveral() {
        by("of several the first (10 the lesser and the other);");
        int[] twos = {1, 2, 3, 4, 5, 12, 13, 14, 15, 23, 24, 25, 34, 35, 45};
        for (int first = 0; first < twos.length; first++) {
            OnlyTwoEnemies x = told("k100;k100;k100;k100;k100;k100;l400;");
            for (int last = twos.length - 1; last >= first; last--) {
                x.hates(twos[last] % 10, twos[last] / 10, 40);
                due(x.letterOf(0, 3), twos[last]);
            }
            due(x.when(0, 1), twos[first]);
        }
    }

    private static void opensNone() {
        by("-9 none.");
        OnlyTwoEnemies x = told("l000;l990;");
        due(x.letterOf(0, 3), -9);
        x.keeper(0, 0, 0);
        due(x.letterOf(0, 3), -9);
        x.keeper(0, 0, 1);
        due(x.letterOf(0, 3), -9);
        x.goes(1, 0);
        due(x.letterOf(0, 3), 1);
        x.hates(0, 1, 98);
        due(x.letterOf(1, 3), -9);
        due(x.count(11), 0);
    }

    private static void aWeekMore() {
        by("A WEEK: WEEK is 1 more;");
        OnlyTwoEnemies x = new OnlyTwoEnemies();
        for (int week = 1; week <= 3; week++) {
            due(x.weeks(1), 0);
            due(x.count(2), week);
        }
        due(x.weeks(60), 0);
        due(x.count(2), 63);
        due(tell(x, "w01;"), 1);
        due(x.count(2), 64);
    }

    /** What two of a kind and a figure HATE each other behind a WEEK. */
    private static int afterAWeek(int kind, int figure, boolean together, int hate) {
        OnlyTwoEnemies x = new OnlyTwoEnemies();
        x.keeper(kind, figure, 1);
        x.keeper(kind, figure, together ? 1 : 2);
        x.hates(0, 1, hate);
        x.weeks(1);
        return x.hate(0, 1);
    }

    private static void fadesToNothing() {
        by("HATE of each two in one TOWN is less by what both FADE (0 at least),");
        int[][] fades = {{0, 0, 1}, {1, 9, 0}, {2, 0, 2}, {3, 0, 1}, {3, 9, 5}, {4, 9, 0}, {5, 0, 3}};
        for (int[] f : fades) {
            int both = 2 * f[2];
            for (int hate : new int[] {0, Math.max(0, both - 1), both, both + 1, 98, 99}) {
                due(afterAWeek(f[0], f[1], true, hate), Math.max(0, hate - both));
            }
        }
        OnlyTwoEnemies x = told("k390;k500;h0108;");
        x.weeks(1);
        due(x.hate(0, 1), 0);
        x.hates(0, 1, 9);
        x.weeks(1);
        due(x.hate(0, 1), 1);
        x.weeks(60);
        due(x.hate(0, 1), 0);
    }

    private static void stirsToTheMost() {
        by("of each two who are not more by what both STIR (99 at most);");
        int[][] stirs = {{0, 9, 0}, {1, 9, 1}, {2, 9, 0}, {3, 9, 0}, {4, 3, 1}, {4, 4, 2}, {4, 8, 3}, {5, 9, 0}};
        for (int[] s : stirs) {
            int both = 2 * s[2];
            for (int hate : new int[] {0, 1, 98 - both, 99 - both, Math.min(99, 100 - both), 98, 99}) {
                due(afterAWeek(s[0], s[1], false, hate), Math.min(99, hate + both));
            }
        }
        OnlyTwoEnemies x = told("k480;k101;h0194;");
        x.weeks(1);
        due(x.hate(0, 1), 98);
        x.weeks(1);
        due(x.hate(0, 1), 99);
        x.weeks(60);
        due(x.hate(0, 1), 99);
    }

    private static void fadesOrStirs() {
        by("of each two who are not more by what both STIR (99 at most);");
        OnlyTwoEnemies x = told("k480;k390;");
        x.weeks(1);
        due(x.hate(0, 1), 15);
        x.goes(1, 3);
        x.weeks(1);
        due(x.hate(0, 1), 18);
    }

    private static void lettersByNumbers() {
        by("then LETTERS by numbers,");
        // Whoever opens one HATES 5 less ahead of the next.
        OnlyTwoEnemies up = told("k100;k100;l100;l150;l200;");
        due(up.weeks(1), 2);
        due(up.count(3), 1 + 2);
        due(up.hate(0, 1), 10);
        OnlyTwoEnemies down = told("k100;k100;l200;l150;l100;");
        due(down.weeks(1), 3);
        due(down.hate(0, 1), 5);
        // Hatred fades ahead of the LETTERS, not behind them.
        OnlyTwoEnemies late = told("k000;k000;l190;l180;");
        due(late.weeks(1), 1);
        due(late.count(3), 2);
        due(late.hate(0, 1), 13);
        // All six, the last by what is left.
        OnlyTwoEnemies six = told("k100;k100;h0199;l990;l940;l890;l840;l790;l740;");
        due(six.weeks(1), 6);
        due(six.count(3), 63);
        due(six.hate(0, 1), 69);
    }

    private static void sealedOnly() {
        by("each that is SEALED: if somebody OPENS it, it is OPEN,");
        OnlyTwoEnemies x = told("k100;k100;l200;l200;s0;");
        due(x.weeks(1), 2);
        due(x.count(3), 3);
        due(x.hate(0, 1), 15);
        due(x.weeks(60), 2);
        due(x.hate(0, 1), 15);
        OnlyTwoEnemies none = told("k100;k101;l200;l200;s1;");
        due(none.weeks(60), 1);
        due(none.count(3), 2);
    }

    private static void fiveLess() {
        by("and their HATE is 5 less (0 at least).");
        int[] hates = {0, 1, 4, 5, 6, 98, 99};
        int[] dues = {0, 0, 0, 0, 1, 93, 94};
        for (int i = 0; i < hates.length; i++) {
            OnlyTwoEnemies x = told("k102;k102;");
            x.hates(0, 1, hates[i]);
            x.letter(2, hates[i]);
            due(x.weeks(1), 1);
            due(x.hate(0, 1), dues[i]);
        }
        OnlyTwoEnemies x = told("k100;k100;h0104;l010;l000;l000;");
        due(x.weeks(1), 3);
        due(x.hate(0, 1), 0);
        // Nobody else's is.
        OnlyTwoEnemies three = told("k100;k100;k100;h0230;h1230;l200;");
        due(three.weeks(1), 1);
        due(three.hate(0, 1), 15);
        due(three.hate(0, 2), 30);
        due(three.hate(1, 2), 30);
    }

    private static void nobodyInAWeek() {
        by("A WEEK:");
        OnlyTwoEnemies x = told("l000;s0;l000;");
        due(x.weeks(60), 1);
        due(x.count(3), 1);
        due(x.count(4), 0);
        OnlyTwoEnemies y = new OnlyTwoEnemies();
        due(y.weeks(1), 0);
    }
}
