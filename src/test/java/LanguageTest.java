import java.lang.reflect.Constructor;
import java.lang.reflect.Field;
import java.lang.reflect.Method;
import java.lang.reflect.Modifier;
import java.nio.charset.StandardCharsets;
import java.nio.file.Files;
import java.nio.file.Path;
import java.util.ArrayList;
import java.util.Arrays;
import java.util.List;
import java.util.Set;
import java.util.TreeSet;
import java.util.regex.Matcher;
import java.util.regex.Pattern;

/** The public face of the document, and the rules of LANGUAGE.md as far as a text and a class tell them. */
public final class LanguageTest {
    private static final String SOURCE = "src/main/java/OnlyTwoEnemies.java";
    private static final String[] FACE = {"int feed(int)", "int land()", "int keeperOf(int,int)", "int letterOf(int,int)",
        "int hate(int,int)", "int keeper(int,int,int)", "int letter(int,int)", "int hates(int,int,int)", "int goes(int,int)",
        "int seals(int)", "int weeks(int)", "int back()", "int behind(int,int,int)", "int then(int,int)",
        "int when(int,int)", "int lasts(int,int,int)", "int never(int)", "int insult(int,int,int)", "int send(int)",
        "int places(int,int,int,int,int)", "int fewest(int,int)", "int pay(int,int)", "int deepest(int)", "int pairs(int)",
        "int worst(int)", "int whoHates(int,int,int)", "int whatKind(int,int,int)", "long jug(int,int,int,int)",
        "int two(int,int)", "long meetings(int,int,int,int,int,int)", "int fullest(int)", "int thickest()", "int mildest()",
        "int bare()", "long mean(int)", "int used(int,int,int)", "int swap(int)", "int apart(int)", "int enemy(int)",
        "int can(int)", "int row(int)", "int judge(int)", "int clear()", "int lots(int,int,int)", "int image()",
        "int restore()", "int count(int)"};
    private static final String[] NEVER = {"throw", "throws", "try", "catch", "finally", "synchronized", "assert", "protected",
        "double", "float", "volatile", "transient", "native", "Object", "Random", "Thread", "hashCode", "toString"};

    private static int wrong;

    public static void main(String[] args) throws Exception {
        face();
        classes();
        source(Files.readString(Path.of(SOURCE), StandardCharsets.ISO_8859_1));
        System.out.println(wrong == 0 ? "the language is kept to" : wrong + " faults of language");
        if (wrong != 0) {
            System.exit(1);
        }
    }

    private static void must(boolean right, String fault) {
        if (!right) {
            wrong++;
            System.out.println(fault);
        }
    }

    private static void face() {
        Class<?> c = OnlyTwoEnemies.class;
        must(Modifier.isPublic(c.getModifiers()) && Modifier.isFinal(c.getModifiers()), "the class is not public and final");
        Set<String> due = new TreeSet<>(Arrays.asList(FACE));
        Set<String> names = new TreeSet<>();
        Set<String> found = new TreeSet<>();
        for (Method m : c.getDeclaredMethods()) {
            if (!Modifier.isPrivate(m.getModifiers())) {
                StringBuilder types = new StringBuilder();
                for (Class<?> type : m.getParameterTypes()) {
                    types.append(types.length() == 0 ? "" : ",").append(type.getName());
                }
                found.add(m.getReturnType().getName() + " " + m.getName() + "(" + types + ")");
                names.add(m.getName());
                must(Modifier.isPublic(m.getModifiers()) && !Modifier.isStatic(m.getModifiers()), m + " is not of the face");
            }
        }
        must(found.equals(due), "the face is " + found + ", due is " + due);
        for (Class<?> inside : all()) {
            for (Method m : inside.getDeclaredMethods()) {
                must(inside == c && Modifier.isPublic(m.getModifiers()) || !names.contains(m.getName()), m + " bears a public name");
            }
        }
        Constructor<?>[] made = c.getDeclaredConstructors();
        must(made.length == 1 && made[0].getParameterCount() == 0 && Modifier.isPublic(made[0].getModifiers()), "constructors");
    }

    private static List<Class<?>> all() {
        List<Class<?>> all = new ArrayList<>();
        all.add(OnlyTwoEnemies.class);
        all.addAll(Arrays.asList(OnlyTwoEnemies.class.getDeclaredClasses()));
        return all;
    }

    private static void classes() {
        must(all().size() <= 12, "more than 12 classes");
        for (Class<?> c : all()) {
            must(c == OnlyTwoEnemies.class || Modifier.isStatic(c.getModifiers()), c + " is not static");
            int fields = 0;
            for (Field f : c.getDeclaredFields()) {
                boolean fixed = Modifier.isStatic(f.getModifiers());
                fields += fixed ? 0 : 1;
                must(!fixed || Modifier.isFinal(f.getModifiers()), f + " is static and changes");
                must(Modifier.isPrivate(f.getModifiers()), f + " is not private");
            }
            must(fields <= 20, c + " has " + fields + " fields");
            for (Method m : c.getDeclaredMethods()) {
                must(m.getParameterCount() <= 7, m + " takes too many");
                must(!m.isSynthetic(), m + " is the compiler's");
            }
        }
    }

    private static void source(String text) {
        must(text.chars().allMatch(c -> c == '\n' || c >= 32 && c < 127), "a sign that is not plain");
        String bare = text.replaceAll("/\\*(?s:.*?)\\*/", "").replaceAll("//[^\n]*", "");
        for (String word : NEVER) {
            must(!Pattern.compile("\\b" + word + "\\b").matcher(bare).find(), "the word " + word);
        }
        must(!bare.contains("->") && !bare.contains("::"), "a lambda or a method reference");
        must(!bare.contains("Exact("), "an Exact function");
        must(!bare.contains("\""), "a text");
        must(!bare.contains("@"), "an annotation");
        Matcher imports = Pattern.compile("import ([^;]*);").matcher(bare);
        while (imports.find()) {
            must(imports.group(1).equals("java.util.Arrays"), "the import " + imports.group(1));
        }
        lengths(text.split("\n"));
    }

    /** A method begins at a line that ends in "{" and closes at the same depth. */
    private static void lengths(String[] lines) {
        for (int i = 0; i < lines.length; i++) {
            must(lines[i].length() <= 120, "line " + (i + 1) + " is long");
            Matcher head = Pattern.compile("^( {4}| {8})(?!.*\\bclass\\b)\\S.*\\) \\{$").matcher(lines[i]);
            if (head.find() && !lines[i].matches("\\s*(if|for|while|switch|\\}).*")) {
                int end = i;
                while (end < lines.length && !lines[end].equals(head.group(1) + "}")) {
                    end++;
                }
                must(end - i <= 60, "the method at line " + (i + 1) + " has " + (end - i) + " lines");
            }
        }
    }
}
