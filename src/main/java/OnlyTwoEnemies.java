import java.util.Arrays;

/** Letters under seals that only two who hate each other enough can open. */
public final class OnlyTwoEnemies {
    private static final int TOWNS = 4;
    private static final int KEEPERS = 6;
    private static final int LETTERS = 6;
    private static final int KINDS = 6;
    private static final int MOST_FIGURE = 9;
    private static final int MOST_HATE = 99;
    private static final int MOST_DEPTH = 99;
    private static final int LAST_WEEK = 999;
    private static final int FAR = 60;
    private static final int MOST_TESTS = 8;
    private static final int MOST_MEETING_WEEKS = 7;
    private static final int LEAST_ODDS = 2;
    private static final int MOST_ODDS = 20;
    private static final int MOST_COUNTRIES = 20;
    private static final int MOST_SIGN = 255;
    private static final int ALL_TOWNS = -1;
    private static final int NOWHERE = -1;
    private static final int NONE = -9;

    private static final int NOBODY = -1;
    private static final int OTHER = -2;
    private static final int STATE = -3;
    private static final int BELOW = -4;
    private static final int ROOM = -6;
    private static final int USED_REFUSED = 1000000000;
    private static final long LONG_REFUSED = 4000000000000000000L;

    private final Country now;
    private final Country draft = new Country();
    private final Country kept = new Country();
    private boolean isKept;
    private final Past past = new Past();
    private final Telling telling = new Telling();
    private final Row numbers = new Row();
    private final Look look;
    private final Mind mind;
    private final int[] refusals = new int[-ROOM + 1];

    public OnlyTwoEnemies() {
        Country country = new Country();
        now = country;
        look = new Look(country);
        mind = new Mind(country);
    }

    // ---- A land told in letters

    public int feed(int letter) {
        int refusal = firstOf(range(letter, 0, MOST_SIGN), telling.isFull() ? ROOM : 0, 0);
        return refusal != 0 ? refused(refusal) : telling.add(letter);
    }

    public int land() {
        draft.become(now);
        int told = telling.tellTo(draft);
        telling.empty();
        if (told > 0) {
            now.become(draft);
            past.forget();
        }
        return told;
    }

    // ---- What there is

    public int keeperOf(int keeper, int what) {
        int refusal = firstOf(keeperRefusal(keeper), choice(what, 5), 0);
        if (refusal != 0) {
            return refused(refusal);
        }
        switch (what) {
            case 0: return now.kindOf(keeper);
            case 1: return now.figureOf(keeper);
            case 2: return now.townOf(keeper);
            case 3: return now.fadeOf(keeper);
            case 4: return now.stirOf(keeper);
            default: return now.wageOf(keeper);
        }
    }

    public int letterOf(int letter, int what) {
        int refusal = firstOf(letterRefusal(letter), choice(what, 3), 0);
        if (refusal != 0) {
            return refused(refusal);
        }
        switch (what) {
            case 0: return now.depthOf(letter);
            case 1: return now.letterTownOf(letter);
            case 2: return now.isOpen(letter) ? 1 : 0;
            default: return now.opener(letter);
        }
    }

    public int hate(int one, int other) {
        int refusal = twoRefusal(one, other);
        return refusal != 0 ? refused(refusal) : now.hateOf(one, other);
    }

    public int count(int what) {
        switch (what) {
            case 0: return now.keeperCount();
            case 1: return now.letterCount();
            case 2: return now.weekNow();
            case 3: return now.openBits();
            case 4: return now.allHate();
            case 5: return telling.size();
            case 6: return numbers.size();
            case 7: return past.size();
            default: return what >= 11 && what <= 16 ? at(refusals, what - 10) : NONE;
        }
    }

    // ---- What changes it

    public int keeper(int kind, int figure, int town) {
        int noRoom = now.hasKeeperRoom() ? 0 : ROOM;
        int refusal = firstOf(kind < 0 || kind >= KINDS ? OTHER : 0, range(figure, 0, MOST_FIGURE), noRoom);
        refusal = firstOf(refusal, townRefusal(town), 0);
        if (refusal != 0) {
            return refused(refusal);
        }
        past.forget();
        return now.addKeeper(kind, figure, town);
    }

    public int letter(int town, int depth) {
        int noRoom = now.hasLetterRoom() ? 0 : ROOM;
        int refusal = firstOf(townRefusal(town), range(depth, 0, MOST_DEPTH), noRoom);
        if (refusal != 0) {
            return refused(refusal);
        }
        past.forget();
        return now.addLetter(town, depth);
    }

    public int hates(int one, int other, int v) {
        int refusal = firstOf(twoRefusal(one, other), range(v, 0, MOST_HATE), 0);
        if (refusal != 0) {
            return refused(refusal);
        }
        past.remember(now);
        int was = now.hateOf(one, other);
        now.setHate(one, other, v);
        return was;
    }

    public int goes(int keeper, int town) {
        int refusal = firstOf(keeperRefusal(keeper), townRefusal(town), 0);
        if (refusal != 0) {
            return refused(refusal);
        }
        past.remember(now);
        int was = now.townOf(keeper);
        now.move(keeper, town);
        return was;
    }

    public int seals(int letter) {
        int refusal = letterRefusal(letter);
        if (refusal != 0) {
            return refused(refusal);
        }
        past.remember(now);
        now.turnSeal(letter);
        return now.isOpen(letter) ? 1 : 0;
    }

    public int weeks(int n) {
        int refusal = firstOf(range(n, 1, FAR), n > LAST_WEEK - now.weekNow() ? ROOM : 0, 0);
        if (refusal != 0) {
            return refused(refusal);
        }
        past.remember(now);
        return now.passWeeks(n);
    }

    public int back() {
        if (past.size() == 0) {
            return refused(STATE);
        }
        past.takeBack(now);
        return past.size();
    }

    public int image() {
        kept.become(now);
        isKept = true;
        return now.weekNow();
    }

    public int restore() {
        if (!isKept) {
            return refused(STATE);
        }
        now.become(kept);
        past.forget();
        return now.weekNow();
    }

    // ---- The row of numbers

    public int row(int v) {
        int refusal = firstOf(range(v, 0, MOST_HATE), numbers.isFull() ? ROOM : 0, 0);
        return refusal != 0 ? refused(refusal) : numbers.add(v);
    }

    public int judge(int keeper) {
        int refusal = keeperRefusal(keeper);
        if (refusal != 0) {
            return refused(refusal);
        }
        int wrong = look.firstMisjudged(keeper, numbers);
        numbers.empty();
        return wrong;
    }

    public int clear() {
        int had = numbers.size();
        numbers.empty();
        return had;
    }

    // ---- Weeks on, in mind

    public int behind(int one, int other, int n) {
        int refusal = firstOf(twoRefusal(one, other), range(n, 0, FAR), 0);
        return refusal != 0 ? refused(refusal) : mind.hateAfter(one, other, n);
    }

    public int then(int n, int what) {
        int refusal = firstOf(range(n, 0, FAR), choice(what, 1), 0);
        if (refusal != 0) {
            return refused(refusal);
        }
        return what == 0 ? mind.openBitsAfter(n) : mind.allHateAfter(n);
    }

    public int when(int letter, int what) {
        int refusal = firstOf(letterRefusal(letter), choice(what, 1), 0);
        if (refusal != 0) {
            return refused(refusal);
        }
        return what == 0 ? mind.weekOpened(letter) : mind.openedBy(letter);
    }

    public int lasts(int one, int other, int depth) {
        int refusal = firstOf(twoRefusal(one, other), range(depth, 0, MOST_DEPTH), 0);
        return refusal != 0 ? refused(refusal) : mind.weekBelow(one, other, depth);
    }

    public int never(int what) {
        int refusal = choice(what, 1);
        if (refusal != 0) {
            return refused(refusal);
        }
        return what == 0 ? mind.sealedFar() : mind.firstOpened();
    }

    public int insult(int one, int other, int letter) {
        int open = now.isOpen(letter) ? STATE : 0;
        int refusal = firstOf(twoRefusal(one, other), letterRefusal(letter), open);
        return refusal != 0 ? refused(refusal) : mind.leastInsult(one, other, letter);
    }

    public int used(int one, int other, int n) {
        int refusal = firstOf(twoRefusal(one, other), range(n, 0, FAR), 0);
        if (refusal != 0) {
            return USED_REFUSED - refused(refusal);
        }
        return now.hateOf(one, other) - mind.hateAfter(one, other, n);
    }

    public int apart(int n) {
        int refusal = range(n, 0, FAR);
        return refusal != 0 ? refused(refusal) : mind.idleWeeks(n);
    }

    public int two(int one, int other) {
        int refusal = twoRefusal(one, other);
        return refusal != 0 ? refused(refusal) : mind.settled(one, other);
    }

    // ---- Whom to send, place, swap, keep

    public int send(int n) {
        int refusal = range(n, 0, FAR);
        return refusal != 0 ? refused(refusal) : mind.bestSending(n);
    }

    public int swap(int n) {
        int refusal = range(n, 0, FAR);
        return refusal != 0 ? refused(refusal) : mind.bestSwap(n);
    }

    public int places(int a, int b, int c, int n, int what) {
        int nobody = firstOf(twoRefusal(a, b), twoRefusal(a, c), twoRefusal(b, c));
        int refusal = firstOf(nobody, range(n, 0, FAR), choice(what, 1));
        if (refusal != 0) {
            return refused(refusal);
        }
        int best = mind.bestPlaces(a, b, c, n);
        return what == 0 ? best : mind.openPlaced(a, b, c, n, best);
    }

    public int fewest(int n, int what) {
        int refusal = firstOf(range(n, 0, FAR), choice(what, 1), 0);
        if (refusal != 0) {
            return refused(refusal);
        }
        int keepers = mind.fewestKept(n);
        return what == 0 ? keepers : look.wages(keepers);
    }

    public int pay(int town, int n) {
        int refusal = firstOf(town == ALL_TOWNS ? 0 : townRefusal(town), range(n, 0, FAR), 0);
        return refusal != 0 ? refused(refusal) : look.wages(look.keepersIn(town)) * n;
    }

    // ---- By what is told: who hates, what kind

    public int whoHates(int one, int other, int what) {
        int refusal = firstOf(twoRefusal(one, other), choice(what, 2), 0);
        return refusal != 0 ? refused(refusal) : mind.fittingHate(one, other, numbers, what);
    }

    public int whatKind(int one, int other, int what) {
        int refusal = firstOf(twoRefusal(one, other), choice(what, 1), 0);
        if (refusal != 0) {
            return refused(refusal);
        }
        return what == 0 ? mind.fittingKinds(one, other, numbers) : mind.fittingFigures(one, other, numbers);
    }

    // ---- By chance

    public long jug(int n, int k, int t, int part) {
        int below = n < 0 || k < 0 || t < LEAST_ODDS ? BELOW : 0;
        int above = n > MOST_TESTS || k > MOST_TESTS || t > MOST_ODDS ? ROOM : 0;
        int refusal = firstOf(below, above, choice(part, 1));
        if (refusal != 0) {
            return LONG_REFUSED - refused(refusal);
        }
        return Chance.part(Chance.ways(n, k, t), Chance.power(t, n), part);
    }

    public long meetings(int one, int other, int letter, int n, int t, int part) {
        int nobody = firstOf(twoRefusal(one, other), letterRefusal(letter), 0);
        int below = n < 0 || t < LEAST_ODDS ? BELOW : 0;
        int above = n > MOST_MEETING_WEEKS || t > MOST_ODDS ? ROOM : 0;
        int refusal = firstOf(firstOf(nobody, below, above), choice(part, 1), 0);
        if (refusal != 0) {
            return LONG_REFUSED - refused(refusal);
        }
        return Chance.part(mind.meetingWays(one, other, letter, n, t), Chance.power(t, n), part);
    }

    public int lots(int n, int z, int what) {
        int refusal = firstOf(range(n, 1, MOST_COUNTRIES), choice(what, 1), 0);
        return refusal != 0 ? refused(refusal) : mind.byLot(n, z, what);
    }

    // ---- As all is now

    public int deepest(int town) {
        int refusal = townRefusal(town);
        return refusal != 0 ? refused(refusal) : look.mostHateIn(town);
    }

    public int can(int v) {
        int refusal = range(v, 0, MOST_DEPTH);
        return refusal != 0 ? refused(refusal) : look.townsThatOpen(v);
    }

    public int pairs(int v) {
        int refusal = range(v, 0, MOST_HATE);
        return refusal != 0 ? refused(refusal) : look.mostTwos(v);
    }

    public int worst(int what) {
        int refusal = choice(what, 2);
        if (refusal != 0) {
            return refused(refusal);
        }
        return what == 2 ? look.friends() : look.worstTwo(what == 0);
    }

    public int fullest(int what) {
        int refusal = choice(what, 1);
        if (refusal != 0) {
            return refused(refusal);
        }
        int town = look.townOfMost();
        return what == 0 ? town : look.crowd(town);
    }

    public int thickest() {
        return look.deepestSealed();
    }

    public int mildest() {
        return look.leastHating();
    }

    public int bare() {
        return look.bareTowns();
    }

    public int enemy(int keeper) {
        int refusal = keeperRefusal(keeper);
        return refusal != 0 ? refused(refusal) : look.mostHated(keeper);
    }

    public long mean(int part) {
        int refusal = choice(part, 1);
        if (refusal != 0) {
            return LONG_REFUSED - refused(refusal);
        }
        int keepers = now.keeperCount();
        return Chance.part(now.allHate(), Math.max(1, keepers * (keepers - 1) / 2), part);
    }

    // ---- Refusals

    private int refused(int refusal) {
        put(refusals, -refusal, at(refusals, -refusal) + 1);
        return refusal;
    }

    private int keeperRefusal(int keeper) {
        return now.hasKeeper(keeper) ? 0 : NOBODY;
    }

    private int letterRefusal(int letter) {
        return now.hasLetter(letter) ? 0 : NOBODY;
    }

    private int twoRefusal(int one, int other) {
        return now.areTwo(one, other) ? 0 : NOBODY;
    }

    private static int townRefusal(int town) {
        return isTown(town) ? 0 : NOBODY;
    }

    private static boolean isTown(int town) {
        return town >= 0 && town < TOWNS;
    }

    private static int range(int v, int least, int greatest) {
        return v < least ? BELOW : v > greatest ? ROOM : 0;
    }

    private static int choice(int what, int greatest) {
        return what >= 0 && what <= greatest ? 0 : OTHER;
    }

    private static int firstOf(int first, int second, int third) {
        return first != 0 ? first : second != 0 ? second : third;
    }

    // ---- Cells of rows, never beside them

    private static int at(int[] cells, int place) {
        return cells != null && place >= 0 && place < cells.length ? cells[place] : 0;
    }

    private static void put(int[] cells, int place, int v) {
        if (cells != null && place >= 0 && place < cells.length) {
            cells[place] = v;
        }
    }

    private static void copy(int[] from, int[] to) {
        if (from != null && to != null) {
            System.arraycopy(from, 0, to, 0, Math.min(from.length, to.length));
        }
    }

    private static int bit(int bits, int place) {
        return place >= 0 && place < 31 ? bits >> place & 1 : 0;
    }

    private static int twoName(int one, int other) {
        return 10 * Math.min(one, other) + Math.max(one, other);
    }

    /** What the kinds of keepers have of their own. */
    private static final class Kinds {
        private static final int BROTHER = 1;
        private static final int HIRED = 2;
        private static final int LOVER = 3;
        private static final int SON = 4;
        private static final int OLD = 5;
        private static final int KEEPER_FADES = 1;
        private static final int BROTHER_FADES = 0;
        private static final int HIRED_FADES = 2;
        private static final int KEEPER_STIRS = 0;
        private static final int BROTHER_STIRS = 1;
        private static final int HIRED_WAGE = 5;

        private Kinds() {
        }

        static int fading(int kind, int figure) {
            switch (kind) {
                case BROTHER: return BROTHER_FADES;
                case HIRED: return HIRED_FADES;
                case LOVER: return figure / 2 + 1;
                case SON: return BROTHER_FADES;
                case OLD: return HIRED_FADES + 1;
                default: return KEEPER_FADES;
            }
        }

        static int stirring(int kind, int figure) {
            switch (kind) {
                case BROTHER: return BROTHER_STIRS;
                case SON: return BROTHER_STIRS + figure / 4;
                default: return KEEPER_STIRS;
            }
        }

        static int wage(int kind, int figure) {
            int keeperWage = figure + 1;
            int brotherWage = 2 * keeperWage;
            switch (kind) {
                case BROTHER: return brotherWage;
                case HIRED: return HIRED_WAGE;
                case LOVER: return 0;
                case SON: return brotherWage - 1;
                case OLD: return HIRED_WAGE / 2;
                default: return keeperWage;
            }
        }
    }

    /** Who keeps where, who hates whom, what is sealed, and how a week changes it. */
    private static final class Country {
        private static final int FIRST_HATE = 20;
        private static final int USED_BY_OPENING = 5;

        private final int[] kinds = new int[KEEPERS];
        private final int[] figures = new int[KEEPERS];
        private final int[] towns = new int[KEEPERS];
        // Only the cell with the lesser keeper first is used of each two.
        private final int[] hatreds = new int[KEEPERS * KEEPERS];
        private final int[] depths = new int[LETTERS];
        private final int[] letterTowns = new int[LETTERS];
        // By whom a letter was opened since this country became as another is.
        private final int[] openers = new int[LETTERS];
        private int keepers;
        private int letters;
        private int open;
        private int week;

        void become(Country other) {
            if (other == null) {
                return;
            }
            copy(other.kinds, kinds);
            copy(other.figures, figures);
            copy(other.towns, towns);
            copy(other.hatreds, hatreds);
            copy(other.depths, depths);
            copy(other.letterTowns, letterTowns);
            Arrays.fill(openers, NONE);
            keepers = other.keepers;
            letters = other.letters;
            open = other.open;
            week = other.week;
        }

        int keeperCount() {
            return keepers;
        }

        int letterCount() {
            return letters;
        }

        int weekNow() {
            return week;
        }

        int openBits() {
            return open;
        }

        int openCount() {
            return Integer.bitCount(open);
        }

        boolean hasKeeper(int keeper) {
            return keeper >= 0 && keeper < keepers;
        }

        boolean hasLetter(int letter) {
            return letter >= 0 && letter < letters;
        }

        boolean areTwo(int one, int other) {
            return hasKeeper(one) && hasKeeper(other) && one != other;
        }

        boolean areBothIn(int town, int one, int other) {
            return at(towns, one) == town && at(towns, other) == town;
        }

        boolean hasKeeperRoom() {
            return keepers < KEEPERS;
        }

        boolean hasLetterRoom() {
            return letters < LETTERS;
        }

        int kindOf(int keeper) {
            return at(kinds, keeper);
        }

        int figureOf(int keeper) {
            return at(figures, keeper);
        }

        int townOf(int keeper) {
            return at(towns, keeper);
        }

        int fadeOf(int keeper) {
            return Kinds.fading(at(kinds, keeper), at(figures, keeper));
        }

        int stirOf(int keeper) {
            return Kinds.stirring(at(kinds, keeper), at(figures, keeper));
        }

        int wageOf(int keeper) {
            return Kinds.wage(at(kinds, keeper), at(figures, keeper));
        }

        int depthOf(int letter) {
            return at(depths, letter);
        }

        int letterTownOf(int letter) {
            return at(letterTowns, letter);
        }

        boolean isOpen(int letter) {
            return bit(open, letter) == 1;
        }

        int openedBy(int letter) {
            return at(openers, letter);
        }

        int hateOf(int one, int other) {
            return at(hatreds, Math.min(one, other) * KEEPERS + Math.max(one, other));
        }

        int allHate() {
            int sum = 0;
            for (int one = 0; one < keepers; one++) {
                for (int other = one + 1; other < keepers; other++) {
                    sum += hateOf(one, other);
                }
            }
            return sum;
        }

        int addKeeper(int kind, int figure, int town) {
            int keeper = keepers;
            put(kinds, keeper, kind);
            put(figures, keeper, figure);
            put(towns, keeper, town);
            for (int other = 0; other < keeper; other++) {
                setHate(other, keeper, FIRST_HATE);
            }
            keepers++;
            return keeper;
        }

        int addLetter(int town, int depth) {
            int letter = letters;
            put(depths, letter, depth);
            put(letterTowns, letter, town);
            letters++;
            return letter;
        }

        void setHate(int one, int other, int v) {
            int held = Math.max(0, Math.min(MOST_HATE, v));
            put(hatreds, Math.min(one, other) * KEEPERS + Math.max(one, other), held);
        }

        void setKind(int keeper, int kind) {
            put(kinds, keeper, kind);
        }

        void setFigure(int keeper, int figure) {
            put(figures, keeper, figure);
        }

        void move(int keeper, int town) {
            put(towns, keeper, town);
        }

        void turnSeal(int letter) {
            if (hasLetter(letter)) {
                open ^= 1 << letter;
            }
        }

        /** The two who open a letter as all is, sealed or not. */
        int opener(int letter) {
            int town = at(letterTowns, letter);
            int depth = at(depths, letter);
            int best = NONE;
            int least = MOST_HATE + 1;
            for (int one = 0; one < keepers; one++) {
                for (int other = one + 1; other < keepers; other++) {
                    int hatred = areBothIn(town, one, other) ? hateOf(one, other) : NONE;
                    if (hatred >= depth && hatred < least) {
                        best = twoName(one, other);
                        least = hatred;
                    }
                }
            }
            return best;
        }

        /** How many letters are open then. */
        int passWeeks(int n) {
            for (int i = 0; i < n; i++) {
                passWeek();
            }
            return openCount();
        }

        /** The letters (bits) that are opened in the week. */
        int passWeek() {
            week++;
            for (int one = 0; one < keepers; one++) {
                for (int other = one + 1; other < keepers; other++) {
                    setHate(one, other, hateOf(one, other) + change(one, other));
                }
            }
            int opened = 0;
            for (int letter = 0; letter < letters; letter++) {
                int by = isOpen(letter) ? NONE : opener(letter);
                if (by != NONE) {
                    opened |= 1 << letter;
                    open |= 1 << letter;
                    put(openers, letter, by);
                    setHate(by / 10, by % 10, hateOf(by / 10, by % 10) - USED_BY_OPENING);
                }
            }
            return opened;
        }

        /** Who is nowhere neither fades nor stirs: hatred with him stays. */
        private int change(int one, int other) {
            int here = at(towns, one);
            int there = at(towns, other);
            if (here == NOWHERE || there == NOWHERE) {
                return 0;
            }
            return here == there ? -fadeOf(one) - fadeOf(other) : stirOf(one) + stirOf(other);
        }
    }

    /** The countries of earlier, the latest of which can be taken back first. */
    private static final class Past {
        private static final int MOST = 8;

        private final Country[] earlier = new Country[MOST];
        private int next;
        private int size;

        Past() {
            for (int i = 0; i < MOST; i++) {
                earlier[i] = new Country();
            }
        }

        int size() {
            return size;
        }

        void forget() {
            size = 0;
        }

        void remember(Country now) {
            Country free = country(next);
            if (free != null) {
                free.become(now);
                next = (next + 1) % MOST;
                size = Math.min(MOST, size + 1);
            }
        }

        void takeBack(Country now) {
            int latest = (next + MOST - 1) % MOST;
            Country was = country(latest);
            if (size > 0 && now != null && was != null) {
                now.become(was);
                next = latest;
                size--;
            }
        }

        private Country country(int place) {
            return place >= 0 && place < earlier.length ? earlier[place] : null;
        }
    }

    /** Numbers told one by one. */
    private static final class Row {
        private static final int MOST = 12;

        private final int[] numbers = new int[MOST];
        private int size;

        int size() {
            return size;
        }

        boolean isFull() {
            return size >= MOST;
        }

        int add(int v) {
            put(numbers, size, v);
            size = Math.min(MOST, size + 1);
            return size;
        }

        int number(int place) {
            return at(numbers, place);
        }

        void empty() {
            size = 0;
        }
    }

    /** A land as it is told, letter by letter. */
    private static final class Telling {
        private static final int MOST = 96;
        private static final int NO_FAULT = -1;
        private static final int BROKEN = -1000;
        private static final int FALSE = -2000;

        private final int[] signs = new int[MOST];
        private int size;

        int size() {
            return size;
        }

        boolean isFull() {
            return size >= MOST;
        }

        int add(int sign) {
            put(signs, size, sign);
            size = Math.min(MOST, size + 1);
            return size;
        }

        void empty() {
            size = 0;
        }

        /** How many statements came; or the fault, and then the country is of no use. */
        int tellTo(Country country) {
            int broken = brokenPlace();
            if (broken != NO_FAULT) {
                return BROKEN - broken;
            }
            int statements = 0;
            int place = 0;
            for (int i = 0; i < MOST && place < size; i++) {
                if (country == null || !isRight(place, country)) {
                    return FALSE - place;
                }
                comes(place, country);
                statements++;
                place += digitsBehind(sign(place)) + 2;
            }
            return statements;
        }

        private int brokenPlace() {
            if (size == 0) {
                return 0;
            }
            int place = 0;
            for (int i = 0; i < MOST && place < size; i++) {
                int digits = digitsBehind(sign(place));
                if (digits == 0) {
                    return place;
                }
                int end = place + digits + 1;
                for (int inside = place + 1; inside < end; inside++) {
                    if (!isDigit(inside)) {
                        return inside;
                    }
                }
                if (sign(end) != ';') {
                    return end;
                }
                place = end + 1;
            }
            return NO_FAULT;
        }

        private static int digitsBehind(int sign) {
            switch (sign) {
                case 'k': return 3;
                case 'h': return 4;
                case 'l': return 3;
                case 'g': return 2;
                case 's': return 1;
                case 'w': return 2;
                default: return 0;
            }
        }

        /** Whether a whole statement can come to the country as it stands by now. */
        private boolean isRight(int place, Country country) {
            int first = digit(place + 1);
            int second = digit(place + 2);
            int third = digit(place + 3);
            int weeks = twoDigits(place + 1);
            switch (sign(place)) {
                case 'k': return first < KINDS && isTown(third) && country.hasKeeperRoom();
                case 'h': return country.areTwo(first, second);
                case 'l': return isTown(third) && country.hasLetterRoom();
                case 'g': return country.hasKeeper(first) && isTown(second);
                case 's': return country.hasLetter(first);
                default: return weeks >= 1 && weeks <= FAR && weeks <= LAST_WEEK - country.weekNow();
            }
        }

        private void comes(int place, Country country) {
            int first = digit(place + 1);
            int second = digit(place + 2);
            switch (sign(place)) {
                case 'k': country.addKeeper(first, second, digit(place + 3)); break;
                case 'h': country.setHate(first, second, twoDigits(place + 3)); break;
                case 'l': country.addLetter(digit(place + 3), twoDigits(place + 1)); break;
                case 'g': country.move(first, second); break;
                case 's': country.turnSeal(first); break;
                default: country.passWeeks(twoDigits(place + 1)); break;
            }
        }

        private int sign(int place) {
            return place < size ? at(signs, place) : -1;
        }

        private boolean isDigit(int place) {
            return sign(place) >= '0' && sign(place) <= '9';
        }

        private int digit(int place) {
            return sign(place) - '0';
        }

        private int twoDigits(int place) {
            return 10 * digit(place) + digit(place + 1);
        }
    }

    /** What is seen of the country as it is. */
    private static final class Look {
        private final Country now;
        // The most twos among some keepers (bits).
        private final int[] twosAmong = new int[1 << KEEPERS];

        Look(Country now) {
            this.now = now;
        }

        int keepersIn(int town) {
            int bits = 0;
            for (int keeper = 0; keeper < now.keeperCount(); keeper++) {
                if (town == ALL_TOWNS || now.townOf(keeper) == town) {
                    bits |= 1 << keeper;
                }
            }
            return bits;
        }

        int wages(int keepers) {
            int sum = 0;
            for (int keeper = 0; keeper < now.keeperCount(); keeper++) {
                if (bit(keepers, keeper) == 1) {
                    sum += now.wageOf(keeper);
                }
            }
            return sum;
        }

        int crowd(int town) {
            return Integer.bitCount(keepersIn(town));
        }

        int townOfMost() {
            int best = 0;
            for (int town = 1; town < TOWNS; town++) {
                if (crowd(town) > crowd(best)) {
                    best = town;
                }
            }
            return best;
        }

        int mostHateIn(int town) {
            int most = NONE;
            for (int one = 0; one < now.keeperCount(); one++) {
                for (int other = one + 1; other < now.keeperCount(); other++) {
                    if (now.areBothIn(town, one, other)) {
                        most = Math.max(most, now.hateOf(one, other));
                    }
                }
            }
            return most;
        }

        int townsThatOpen(int depth) {
            int bits = 0;
            for (int town = 0; town < TOWNS; town++) {
                if (mostHateIn(town) >= depth) {
                    bits |= 1 << town;
                }
            }
            return bits;
        }

        int mostTwos(int v) {
            for (int last = 0; last < now.keeperCount(); last++) {
                for (int others = 0; others < 1 << last; others++) {
                    put(twosAmong, others | 1 << last, mostTwosWith(last, others, v));
                }
            }
            return at(twosAmong, (1 << now.keeperCount()) - 1);
        }

        /** Either the last stays alone, or he is one of two with one of the others. */
        private int mostTwosWith(int last, int others, int v) {
            int most = at(twosAmong, others);
            for (int other = 0; other < last; other++) {
                boolean together = now.townOf(other) == now.townOf(last);
                if (bit(others, other) == 1 && together && now.hateOf(other, last) >= v) {
                    most = Math.max(most, 1 + at(twosAmong, others & ~(1 << other)));
                }
            }
            return most;
        }

        int worstTwo(boolean whichTwo) {
            int two = NONE;
            int most = NONE;
            for (int one = 0; one < now.keeperCount(); one++) {
                for (int other = one + 1; other < now.keeperCount(); other++) {
                    if (now.hateOf(one, other) > most) {
                        most = now.hateOf(one, other);
                        two = twoName(one, other);
                    }
                }
            }
            return whichTwo ? two : most;
        }

        int friends() {
            int twos = 0;
            for (int one = 0; one < now.keeperCount(); one++) {
                for (int other = one + 1; other < now.keeperCount(); other++) {
                    if (now.hateOf(one, other) == 0) {
                        twos++;
                    }
                }
            }
            return twos;
        }

        int deepestSealed() {
            int best = NONE;
            for (int letter = 0; letter < now.letterCount(); letter++) {
                boolean deeper = best == NONE || now.depthOf(letter) > now.depthOf(best);
                if (!now.isOpen(letter) && deeper) {
                    best = letter;
                }
            }
            return best;
        }

        int leastHating() {
            int best = NONE;
            for (int keeper = 0; keeper < now.keeperCount(); keeper++) {
                if (best == NONE || hatesTogether(keeper) < hatesTogether(best)) {
                    best = keeper;
                }
            }
            return best;
        }

        private int hatesTogether(int keeper) {
            int sum = 0;
            for (int other = 0; other < now.keeperCount(); other++) {
                sum += hateOrSelf(keeper, other);
            }
            return sum;
        }

        private int hateOrSelf(int keeper, int other) {
            return keeper == other ? 0 : now.hateOf(keeper, other);
        }

        int mostHated(int keeper) {
            int best = NONE;
            for (int other = 0; other < now.keeperCount(); other++) {
                boolean more = best == NONE || now.hateOf(keeper, other) > now.hateOf(keeper, best);
                if (other != keeper && more) {
                    best = other;
                }
            }
            return best;
        }

        int bareTowns() {
            int bits = 0;
            for (int letter = 0; letter < now.letterCount(); letter++) {
                if (!now.isOpen(letter) && crowd(now.letterTownOf(letter)) < 2) {
                    bits |= 1 << now.letterTownOf(letter);
                }
            }
            return bits;
        }

        int firstMisjudged(int keeper, Row told) {
            if (told == null) {
                return NONE;
            }
            for (int other = 0; other < told.size(); other++) {
                if (!now.hasKeeper(other) || told.number(other) != hateOrSelf(keeper, other)) {
                    return other;
                }
            }
            return NONE;
        }
    }

    /** What would be some weeks on, tried in a country of its own. */
    private static final class Mind {
        private static final int MOST_INSULT = 99;
        private static final int MEETING = 10;
        private static final int PEACE_WEEKS = 4;
        private static final int IN_VAIN = 3;
        private static final int LOT_WEEKS = 10;
        private static final int LOT_HATE = 60;

        private final Country now;
        private final Country ahead = new Country();

        Mind(Country now) {
            this.now = now;
        }

        int hateAfter(int one, int other, int n) {
            ahead.become(now);
            ahead.passWeeks(n);
            return ahead.hateOf(one, other);
        }

        int openBitsAfter(int n) {
            ahead.become(now);
            ahead.passWeeks(n);
            return ahead.openBits();
        }

        int allHateAfter(int n) {
            ahead.become(now);
            ahead.passWeeks(n);
            return ahead.allHate();
        }

        int weekOpened(int letter) {
            ahead.become(now);
            for (int n = 0; n <= FAR; n++) {
                if (ahead.isOpen(letter)) {
                    return n;
                }
                ahead.passWeek();
            }
            return NONE;
        }

        int openedBy(int letter) {
            ahead.become(now);
            ahead.passWeeks(FAR);
            return ahead.openedBy(letter);
        }

        int weekBelow(int one, int other, int depth) {
            ahead.become(now);
            for (int n = 0; n <= FAR; n++) {
                if (ahead.hateOf(one, other) < depth) {
                    return n;
                }
                ahead.passWeek();
            }
            return NONE;
        }

        int sealedFar() {
            return (1 << now.letterCount()) - 1 & ~openBitsAfter(FAR);
        }

        int firstOpened() {
            ahead.become(now);
            for (int n = 1; n <= FAR; n++) {
                int opened = ahead.passWeek();
                for (int letter = 0; letter < LETTERS; letter++) {
                    if (bit(opened, letter) == 1) {
                        return letter;
                    }
                }
            }
            return NONE;
        }

        int leastInsult(int one, int other, int letter) {
            for (int more = 0; more <= MOST_INSULT; more++) {
                ahead.become(now);
                ahead.setHate(one, other, now.hateOf(one, other) + more);
                ahead.passWeek();
                if (ahead.openedBy(letter) == twoName(one, other)) {
                    return more;
                }
            }
            return NONE;
        }

        int idleWeeks(int n) {
            ahead.become(now);
            int idle = 0;
            for (int i = 0; i < n; i++) {
                if (ahead.passWeek() == 0) {
                    idle++;
                }
            }
            return idle;
        }

        private int openAsAllIs(int n) {
            ahead.become(now);
            return ahead.passWeeks(n);
        }

        int bestSending(int n) {
            int best = NONE;
            int most = openAsAllIs(n);
            for (int keeper = 0; keeper < now.keeperCount(); keeper++) {
                for (int town = 0; town < TOWNS; town++) {
                    if (town != now.townOf(keeper)) {
                        ahead.become(now);
                        ahead.move(keeper, town);
                        int open = ahead.passWeeks(n);
                        if (open > most) {
                            most = open;
                            best = 10 * keeper + town;
                        }
                    }
                }
            }
            return best;
        }

        int bestSwap(int n) {
            int best = NONE;
            int most = openAsAllIs(n);
            for (int one = 0; one < now.keeperCount(); one++) {
                for (int other = one + 1; other < now.keeperCount(); other++) {
                    if (now.townOf(one) != now.townOf(other)) {
                        ahead.become(now);
                        ahead.move(one, now.townOf(other));
                        ahead.move(other, now.townOf(one));
                        int open = ahead.passWeeks(n);
                        if (open > most) {
                            most = open;
                            best = twoName(one, other);
                        }
                    }
                }
            }
            return best;
        }

        int bestPlaces(int a, int b, int c, int n) {
            int best = 0;
            int most = -1;
            for (int i = 0; i < TOWNS * TOWNS * TOWNS; i++) {
                int towns = i / (TOWNS * TOWNS) * 100 + i / TOWNS % TOWNS * 10 + i % TOWNS;
                int open = openPlaced(a, b, c, n, towns);
                if (open > most) {
                    most = open;
                    best = towns;
                }
            }
            return best;
        }

        int openPlaced(int a, int b, int c, int n, int towns) {
            ahead.become(now);
            ahead.move(a, towns / 100);
            ahead.move(b, towns / 10 % 10);
            ahead.move(c, towns % 10);
            return ahead.passWeeks(n);
        }

        /** Fewer keepers may open more than all do: who opens more opens as many, too. */
        int fewestKept(int n) {
            int all = (1 << now.keeperCount()) - 1;
            int due = openAsAllIs(n);
            int best = all;
            for (int keepers = 0; keepers < all; keepers++) {
                boolean fewer = Integer.bitCount(keepers) < Integer.bitCount(best);
                if (fewer && openKept(keepers, n) >= due) {
                    best = keepers;
                }
            }
            return best;
        }

        private int openKept(int keepers, int n) {
            ahead.become(now);
            for (int keeper = 0; keeper < now.keeperCount(); keeper++) {
                if (bit(keepers, keeper) == 0) {
                    ahead.move(keeper, NOWHERE);
                }
            }
            return ahead.passWeeks(n);
        }

        int fittingHate(int one, int other, Row told, int what) {
            int many = 0;
            int least = NONE;
            int greatest = NONE;
            for (int hatred = 0; hatred <= MOST_HATE; hatred++) {
                ahead.become(now);
                ahead.setHate(one, other, hatred);
                if (opensAsTold(told)) {
                    many++;
                    least = least == NONE ? hatred : least;
                    greatest = hatred;
                }
            }
            return what == 0 ? many : what == 1 ? least : greatest;
        }

        private boolean opensAsTold(Row told) {
            if (told == null) {
                return false;
            }
            for (int n = 0; n < told.size(); n++) {
                if (ahead.openCount() != told.number(n)) {
                    return false;
                }
                ahead.passWeek();
            }
            return true;
        }

        int fittingKinds(int one, int other, Row told) {
            int bits = 0;
            for (int kind = 0; kind < KINDS; kind++) {
                ahead.become(now);
                ahead.setKind(one, kind);
                if (hatesAsTold(one, other, told)) {
                    bits |= 1 << kind;
                }
            }
            return bits;
        }

        int fittingFigures(int one, int other, Row told) {
            int bits = 0;
            for (int figure = 0; figure <= MOST_FIGURE; figure++) {
                ahead.become(now);
                ahead.setFigure(one, figure);
                if (hatesAsTold(one, other, told)) {
                    bits |= 1 << figure;
                }
            }
            return bits;
        }

        private boolean hatesAsTold(int one, int other, Row told) {
            if (told == null) {
                return false;
            }
            for (int n = 0; n < told.size(); n++) {
                if (ahead.hateOf(one, other) != told.number(n)) {
                    return false;
                }
                ahead.passWeek();
            }
            return true;
        }

        /** The first two choices (1 makes it up) that neither would leave alone. */
        int settled(int one, int other) {
            int war = hateAfter(one, other, PEACE_WEEKS);
            int peace = hateMadeUp(one, other);
            for (int choices = 0; choices < 4; choices++) {
                int ones = choices / 2;
                int others = choices % 2;
                boolean oneStays = gain(one, ones, others, war, peace) >= gain(one, 1 - ones, others, war, peace);
                boolean otherStays = gain(other, others, ones, war, peace) >= gain(other, 1 - others, ones, war, peace);
                if (oneStays && otherStays) {
                    return 10 * ones + others;
                }
            }
            return NONE;
        }

        private int hateMadeUp(int one, int other) {
            ahead.become(now);
            ahead.setHate(one, other, now.hateOf(one, other) / 2);
            ahead.passWeeks(PEACE_WEEKS);
            return ahead.hateOf(one, other);
        }

        private int gain(int keeper, int his, int theOthers, int war, int peace) {
            int hatred = his == 1 && theOthers == 1 ? peace : war;
            int lost = his == 1 && theOthers == 0 ? IN_VAIN : 0;
            return PEACE_WEEKS * now.wageOf(keeper) - hatred / 2 - lost;
        }

        /** Of power(t, n) ways that weeks can go, those by which a letter is open. */
        long meetingWays(int one, int other, int letter, int n, int t) {
            long ways = 0;
            for (int met = 0; met < 1 << n; met++) {
                ahead.become(now);
                for (int i = 0; i < n; i++) {
                    if (bit(met, i) == 1) {
                        ahead.setHate(one, other, ahead.hateOf(one, other) - MEETING);
                    }
                    ahead.passWeek();
                }
                if (ahead.isOpen(letter)) {
                    ways += Chance.power(t - 1, n - Integer.bitCount(met));
                }
            }
            return ways;
        }

        int byLot(int n, int seed, int what) {
            int z = seed;
            int opened = 0;
            int hatred = 0;
            for (int i = 0; i < n; i++) {
                ahead.become(now);
                for (int one = 0; one < now.keeperCount(); one++) {
                    for (int other = one + 1; other < now.keeperCount(); other++) {
                        z = z * 1103515245 + 12345;
                        ahead.setHate(one, other, (z & 0x7fffffff) / 65536 % LOT_HATE);
                    }
                }
                opened += ahead.passWeeks(LOT_WEEKS) - now.openCount();
                hatred += ahead.allHate();
            }
            return what == 0 ? opened : hatred;
        }
    }

    /** Fractions, and ways by which chance goes. */
    private static final class Chance {
        // Euclid needs fewer steps than this for any two longs.
        private static final int MOST_STEPS = 100;

        private Chance() {
        }

        static long power(int base, int exponent) {
            long product = 1;
            for (int i = 0; i < exponent; i++) {
                product *= base;
            }
            return product;
        }

        /** Of power(t, n) ways that n tests can go, those with k throws or more. */
        static long ways(int n, int k, int t) {
            long sum = 0;
            for (int thrown = 0; thrown < 1 << n; thrown++) {
                if (Integer.bitCount(thrown) >= k) {
                    sum += power(t - 1, n - Integer.bitCount(thrown));
                }
            }
            return sum;
        }

        static long part(long above, long below, int part) {
            long divisor = commonDivisor(above, below);
            long told = part == 0 ? above : below;
            return divisor > 0 ? told / divisor : told;
        }

        private static long commonDivisor(long above, long below) {
            long a = above;
            long b = below;
            for (int step = 0; step < MOST_STEPS && b != 0; step++) {
                long rest = a % b;
                a = b;
                b = rest;
            }
            return a;
        }
    }
}
