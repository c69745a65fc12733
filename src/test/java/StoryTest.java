/** What the document says of the whole, ahead of its Terms: each thing that "What it is" names, and an object's 512 calls. */
public final class StoryTest extends Edges {
    private static final int CALLS = 512;

    public static void main(String[] args) {
        all();
        end("the whole is what it is");
    }

    static void all() {
        onlyTwoEnemies();
        whoAndWhat();
        weeks();
        inMind();
        byWhatIsTold();
        chance();
        landAndImage();
        callsOfOne();
        objectsApart();
    }

    /** A KEEPER and a BROTHER in TOWN 0, a SON in TOWN 1; LETTER 0 is with the two, LETTER 1 with the SON. */
    private static OnlyTwoEnemies three() {
        return told("k040;k130;k481;l150;l251;");
    }

    private static void onlyTwoEnemies() {
        by(WHOLE, "Only two enemies can open it together:");
        OnlyTwoEnemies alone = told("k100;l010;");
        due(alone.weeks(1), 0);
        OnlyTwoEnemies friends = told("k100;k100;l010;h0100;");
        due(friends.weeks(1), 0);
        OnlyTwoEnemies apart = told("k100;k101;l010;");
        due(apart.weeks(1), 0);
        OnlyTwoEnemies enemies = told("k100;k100;l010;h0101;");
        due(enemies.weeks(1), 1);
    }

    private static void whoAndWhat() {
        OnlyTwoEnemies x = three();
        by(WHOLE, "keepers of kinds in towns,");
        due(x.keeperOf(2, 0), 4);
        due(x.keeperOf(2, 2), 1);
        by(WHOLE, "how much each two hate each other,");
        due(x.hate(0, 1), 20);
        due(x.hate(2, 1), 20);
        by(WHOLE, "letters under seals of a depth;");
        due(x.letterOf(1, 0), 25);
        due(x.letterOf(1, 2), 0);
    }

    private static void weeks() {
        OnlyTwoEnemies x = three();
        x.letter(0, 99);
        due(x.weeks(1), 1);
        by(WHOLE, "seals are opened by two who hate enough,");
        due(x.count(3), 1);
        by(WHOLE, "and who open one get used to each other;");
        due(x.hate(0, 1), 20 - 1 - 5);
        by(WHOLE, "weeks in which hatred fades by living together or grows apart,");
        due(x.weeks(1), 1);
        due(x.hate(0, 1), 14 - 1);
        due(x.hate(0, 2), 20 + 2 * 3);
        due(x.hate(1, 2), 20 + 2 * 4);
    }

    private static void inMind() {
        OnlyTwoEnemies x = three();
        by(WHOLE, "what is open when,");
        due(x.then(1, 0), 1);
        due(x.when(0, 0), 1);
        due(x.when(1, 0), -9);
        by(WHOLE, "which pair would open what,");
        due(x.letterOf(0, 3), 1);
        due(x.when(0, 1), 1);
        by(WHOLE, "how long a pair lasts,");
        due(x.lasts(0, 1, 15), 1);
        due(x.lasts(0, 1, 14), 2);
        by(WHOLE, "the insult that would do,");
        x.goes(1, 1);
        due(x.insult(1, 2, 1), 5);
        x.back();
        by(WHOLE, "whom to send where,");
        due(told("k100;k101;l150;").send(1), 10);
        by(WHOLE, "the fewest to be kept,");
        due(x.fewest(1, 0), 3);
        by(WHOLE, "pay,");
        due(x.pay(-1, 1), 5 + 8 + 17);
        due(x.pay(0, 2), 2 * (5 + 8));
    }

    private static void byWhatIsTold() {
        OnlyTwoEnemies x = three();
        by(WHOLE, "who hates whom by what opened,");
        rowOf(x, 0, 1);
        due(x.whoHates(0, 1, 0), 84);
        due(x.whoHates(0, 1, 1), 16);
        by(WHOLE, "which kind one is,");
        rowOf(x, 20, 14);
        due(x.whatKind(0, 1, 0), 1);
        by(WHOLE, "told hatreds looked at,");
        rowOf(x, 20, 0, 20);
        due(x.judge(1), -9);
        rowOf(x, 20, 0, 21);
        due(x.judge(1), 2);
    }

    private static void chance() {
        OnlyTwoEnemies x = three();
        by(WHOLE, "feigned malice tested with a jug,");
        fraction(x.jug(1, 1, 6, 0), x.jug(1, 1, 6, 1), 1, 6);
        by(WHOLE, "two who reconcile or not,");
        due(x.two(0, 1), 0);
        by(WHOLE, "meetings by chance,");
        fraction(x.meetings(0, 1, 0, 1, 3, 0), x.meetings(0, 1, 0, 1, 3, 1), 2, 3);
        by(WHOLE, "countries by lot,");
        // The first DRAW of the seed 0 is 12345 over 65536, cut.
        OnlyTwoEnemies brothers = told("k100;k100;l000;l010;");
        due(brothers.lots(1, 0, 0), 1);
        due(brothers.lots(1, 0, 1), 0);
    }

    private static void landAndImage() {
        OnlyTwoEnemies x = new OnlyTwoEnemies();
        by(WHOLE, "lands told in letters,");
        due(tell(x, "k040;k130;l150;"), 3);
        due(x.count(0), 2);
        by(WHOLE, "an image. ==== I.");
        due(x.image(), 0);
        due(x.weeks(5), 1);
        due(x.restore(), 0);
        due(x.count(3), 0);
        due(x.hate(0, 1), 20);
    }

    private static void callsOfOne() {
        by(WHOLE, "An object is used for at most 512 calls after it has been made; what later calls answer is free.");
        OnlyTwoEnemies x = new OnlyTwoEnemies();
        int calls = 0;
        due(x.keeper(1, 0, 0), calls++);
        due(x.keeper(1, 0, 0), calls++);
        for (; calls < CALLS - 2; calls += 2) {
            due(x.weeks(1), 0);
            due(x.image(), calls / 2);
        }
        due(x.restore(), (CALLS - 4) / 2);
        due(x.letter(0, 20), 0);
    }

    private static void objectsApart() {
        by(WHOLE, "An object is used for at most 512 calls after it has been made; what later calls answer is free.");
        OnlyTwoEnemies x = three();
        x.row(7);
        x.image();
        x.weeks(2);
        x.seals(9);
        OnlyTwoEnemies made = new OnlyTwoEnemies();
        for (int what = 0; what <= 16; what++) {
            due(made.count(what), what <= 7 || what >= 11 ? 0 : -9);
        }
        due(made.back(), -3);
        due(made.restore(), -3);
        due(made.keeper(0, 0, 3), 0);
        due(made.judge(0), -9);
        due(x.count(0), 3);
        due(x.count(6), 1);
        due(x.count(13), 0);
        due(x.back(), 0);
        due(x.hate(0, 1), 20);
    }
}
