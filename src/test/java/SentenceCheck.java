import java.nio.charset.StandardCharsets;
import java.nio.file.Files;
import java.nio.file.Path;
import java.util.Arrays;
import java.util.HashMap;
import java.util.Map;

/**
 * Run by hand, as the document may change without the class: tells the words of it that no test of edges goes by, and the
 * words of tests that it does not have (any more).
 */
public final class SentenceCheck {
    private static int missing;

    public static void main(String[] args) throws Exception {
        Path doc = Path.of(args.length > 0 ? args[0] : "../shared/DOC.md");
        Map<Integer, String> sections = sections(Files.readString(doc, StandardCharsets.UTF_8));
        StoryTest.all();
        TermsEdgeTest.all();
        LandEdgeTest.all();
        MindEdgeTest.all();
        PastEdgeTest.all();
        FaceEdgeTest.all();
        RefusalTest.all();
        Map<Integer, boolean[]> told = new HashMap<>();
        for (Edges.Quote quote : Edges.QUOTES) {
            mark(quote, sections, told);
        }
        for (int promise = Edges.WHOLE; promise <= 48; promise++) {
            String text = sections.getOrDefault(promise, "");
            tellWhatLacks(promise, text, told.getOrDefault(promise, new boolean[text.length()]));
        }
        System.out.println(missing == 0 ? "each sentence has a test" : missing + " places are without a test");
    }

    /** What it is, the Terms, II, III and IV as 0, and the text of each promise behind its signature. */
    private static Map<Integer, String> sections(String doc) {
        Map<Integer, String> sections = new HashMap<>();
        sections.put(Edges.WHOLE, plain(doc.substring(doc.indexOf("## What it is") + 13, doc.indexOf("## The public face"))));
        String all = doc.substring(doc.indexOf("## Terms") + 8, doc.indexOf("## Not promised"));
        String[] parts = all.split("## Promise ");
        sections.put(0, plain(parts[0].replace("```text", "").replace("```", "")));
        for (int i = 1; i < parts.length; i++) {
            int promise = Integer.parseInt(parts[i].substring(0, parts[i].indexOf(':')));
            sections.put(promise, plain(parts[i].substring(parts[i].indexOf("`: ") + 3)));
        }
        return sections;
    }

    private static String plain(String text) {
        return text.replaceAll("\\s+", " ").trim();
    }

    private static void mark(Edges.Quote quote, Map<Integer, String> sections, Map<Integer, boolean[]> told) {
        String text = sections.getOrDefault(quote.promise, "");
        boolean[] marks = told.computeIfAbsent(quote.promise, p -> new boolean[text.length()]);
        int at = text.indexOf(quote.words);
        if (at < 0) {
            missing++;
            System.out.println("not in the document: " + quote.promise + ": " + quote.words);
        } else {
            // Some words stand in it more than once: their tests go by each.
            for (; at >= 0; at = text.indexOf(quote.words, at + 1)) {
                Arrays.fill(marks, at, at + quote.words.length(), true);
            }
        }
    }

    private static void tellWhatLacks(int promise, String text, boolean[] marks) {
        StringBuilder lacks = new StringBuilder();
        for (int i = 0; i <= text.length(); i++) {
            if (i < text.length() && !marks[i]) {
                lacks.append(text.charAt(i));
            } else if (lacks.length() > 0) {
                if (!lacks.toString().matches("[^A-Za-z0-9]*")) {
                    missing++;
                    System.out.println("no test: " + promise + ": " + lacks.toString().trim());
                }
                lacks.setLength(0);
            }
        }
    }
}
