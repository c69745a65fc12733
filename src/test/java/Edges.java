import java.util.ArrayList;
import java.util.List;

/** What the tests of edges share: the sentence that a test goes by, and answers compared with those that are due. */
abstract class Edges {
    static final int MIN = Integer.MIN_VALUE;
    static final int MAX = Integer.MAX_VALUE;
    static final long LONG = 4000000000000000000L;
    /** Where words ahead of the Terms stand. */
    static final int WHOLE = -1;

    /** A sentence of the document: the promise that it stands in (0 in the Terms, II, III or IV; WHOLE), and its words. */
    static final class Quote {
        final int promise;
        final String words;

        Quote(int promise, String words) {
            this.promise = promise;
            this.words = words;
        }
    }

    static final List<Quote> QUOTES = new ArrayList<>();
    private static Quote quote = new Quote(0, "");
    private static int wrong;

    /** What is tested from here on goes by these words of the Terms, of II, III or IV. */
    static void by(String words) {
        by(0, words);
    }

    /** What is tested from here on goes by these words of a promise, or of the WHOLE. */
    static void by(int promise, String words) {
        quote = new Quote(promise, words);
        QUOTES.add(quote);
    }

    static void due(long got, long want) {
        if (got != want) {
            fault("answered " + got + ", due is " + want);
        }
    }

    static void fraction(long above, long below, long dueAbove, long dueBelow) {
        if (above != dueAbove || below != dueBelow) {
            fault("answered " + above + " over " + below + ", due is " + dueAbove + " over " + dueBelow);
        }
    }

    static void fault(String what) {
        wrong++;
        System.out.println(place() + ": " + what + "  [" + section(quote.promise) + ": " + quote.words + "]");
    }

    private static String section(int promise) {
        return promise == WHOLE ? "What it is" : promise == 0 ? "the Terms" : "promise " + promise;
    }

    private static String place() {
        for (StackTraceElement e : Thread.currentThread().getStackTrace()) {
            String name = e.getClassName();
            if (name.endsWith("Test")) {
                return name + " line " + e.getLineNumber();
            }
        }
        return "?";
    }

    static void end(String right) {
        System.out.println(wrong == 0 ? right : wrong + " answers are not as due");
        if (wrong != 0) {
            System.exit(1);
        }
    }

    static void fed(OnlyTwoEnemies x, String text) {
        for (char c : text.toCharArray()) {
            x.feed(c);
        }
    }

    static int tell(OnlyTwoEnemies x, String text) {
        fed(x, text);
        return x.land();
    }

    /** A country told in letters, which has to be right. */
    static OnlyTwoEnemies told(String text) {
        OnlyTwoEnemies x = new OnlyTwoEnemies();
        if (tell(x, text) < 1) {
            fault("no land: " + text);
        }
        return x;
    }

    static void rowOf(OnlyTwoEnemies x, int... numbers) {
        x.clear();
        for (int v : numbers) {
            x.row(v);
        }
    }

    static String times(int many, String text) {
        StringBuilder all = new StringBuilder();
        for (int i = 0; i < many; i++) {
            all.append(text);
        }
        return all.toString();
    }

    /** The week that is told, from a week before it, by calls of 60 at most. */
    static void until(OnlyTwoEnemies x, int week) {
        for (int left = week - x.count(2); left > 0; left -= 60) {
            x.weeks(Math.min(60, left));
        }
        if (x.count(2) != week) {
            fault("it is week " + x.count(2) + ", due is " + week);
        }
    }

    /** All that there is of part I: keepers, hatreds, letters, the week. 86 calls at most. */
    static List<Long> country(OnlyTwoEnemies x) {
        List<Long> all = new ArrayList<>();
        int keepers = x.count(0);
        int letters = x.count(1);
        for (int what = 0; what <= 4; what++) {
            all.add((long) x.count(what));
        }
        for (int keeper = 0; keeper < keepers; keeper++) {
            for (int what = 0; what <= 5; what++) {
                all.add((long) x.keeperOf(keeper, what));
            }
            for (int other = keeper + 1; other < keepers; other++) {
                all.add((long) x.hate(keeper, other));
            }
        }
        for (int letter = 0; letter < letters; letter++) {
            for (int what = 0; what <= 3; what++) {
                all.add((long) x.letterOf(letter, what));
            }
        }
        return all;
    }

    static void same(List<Long> got, List<Long> want) {
        if (!got.equals(want)) {
            fault("all that there is: " + got + ", due is " + want);
        }
    }

    /** How many refusals there were, of all numbers. */
    static int refused(OnlyTwoEnemies x) {
        int sum = 0;
        for (int what = 11; what <= 16; what++) {
            sum += x.count(what);
        }
        return sum;
    }
}
