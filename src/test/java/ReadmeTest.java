import java.nio.charset.StandardCharsets;
import java.nio.file.Files;
import java.nio.file.Path;
import java.util.regex.Matcher;
import java.util.regex.Pattern;

/** Each example of README.md, line by line: the last call of a line answers what the line's comment says first. */
public final class ReadmeTest {
    private static final Path README = Path.of("README.md");
    private static final Pattern BLOCK = Pattern.compile("```java\\R(.*?)```", Pattern.DOTALL);
    private static final Pattern LINE = Pattern.compile("((?:x\\.\\w+\\([^()]*\\); *)+)// (-?\\d+)\\b.*");
    private static final Pattern CALL = Pattern.compile("x\\.(\\w+)\\(([^()]*)\\);");
    private static final Pattern NEW = Pattern.compile("OnlyTwoEnemies x = new OnlyTwoEnemies\\(\\);( *//.*)?");
    private static final int LEAST_LINES = 30;

    private static OnlyTwoEnemies x;
    private static int lines;
    private static int wrong;

    public static void main(String[] args) throws Exception {
        Matcher block = BLOCK.matcher(Files.readString(README, StandardCharsets.UTF_8));
        while (block.find()) {
            for (String line : block.group(1).split("\\R")) {
                read(line.trim());
            }
        }
        if (lines < LEAST_LINES) {
            fault("README.md has " + lines + " examples, due are " + LEAST_LINES + " or more");
        }
        System.out.println(wrong == 0 ? "README.md tells what the class does" : wrong + " faults in README.md");
        if (wrong != 0) {
            System.exit(1);
        }
    }

    private static void fault(String what) {
        wrong++;
        System.out.println(what);
    }

    private static void read(String line) throws Exception {
        Matcher told = LINE.matcher(line);
        if (NEW.matcher(line).matches()) {
            x = new OnlyTwoEnemies();
        } else if (told.matches() && x != null) {
            lines++;
            long got = last(told.group(1));
            if (got != Long.parseLong(told.group(2))) {
                fault("answered " + got + " where README.md has: " + line);
            }
        } else if (!line.isEmpty()) {
            fault("no example that can be tried: " + line);
        }
    }

    /** Makes each call, and answers what the last one does. */
    private static long last(String calls) throws Exception {
        long answer = 0;
        Matcher call = CALL.matcher(calls);
        while (call.find()) {
            String[] told = call.group(2).isEmpty() ? new String[0] : call.group(2).split(", ");
            Class<?>[] types = new Class<?>[told.length];
            Object[] values = new Object[told.length];
            for (int i = 0; i < told.length; i++) {
                types[i] = int.class;
                values[i] = told[i].startsWith("'") ? told[i].charAt(1) : Integer.parseInt(told[i]);
                values[i] = values[i] instanceof Character ? (int) (Character) values[i] : values[i];
            }
            answer = ((Number) OnlyTwoEnemies.class.getMethod(call.group(1), types).invoke(x, values)).longValue();
        }
        return answer;
    }
}
