import java.io.IOException;
import java.lang.reflect.InvocationTargetException;
import java.lang.reflect.Method;
import java.nio.file.Files;
import java.nio.file.Path;
import java.util.HashMap;
import java.util.Map;
import java.util.NoSuchElementException;
import java.util.regex.Matcher;
import java.util.regex.Pattern;

/** The calls of README.md answer what stands behind them, "// answer: why". */
public final class ReadmeTest extends Bench {
    private static final Pattern BLOCK = Pattern.compile("```java\n(.*?)```", Pattern.DOTALL);
    private static final Pattern MADE = Pattern.compile("LearntReasons (\\w+) = new LearntReasons\\(\\);");
    private static final Pattern PUT = Pattern.compile("put\\((\\w+), \"(.*)\"\\);");
    private static final Pattern CALL = Pattern.compile("(\\w+)\\.(\\w+)\\(([^)]*)\\);");
    private static final Pattern ANSWER = Pattern.compile("// (\\w+):");

    private static final Map<String, Subject> objects = new HashMap<>();
    private static int answers = 0;

    private static Object valueOf(String text) {
        switch (text) {
            case "true": return true;
            case "false": return false;
            case "NONE": return NONE;
            default: return Integer.valueOf(text);
        }
    }

    private static String answerOf(Matcher call) {
        String[] texts = call.group(3).isEmpty() ? new String[0] : call.group(3).split(", ");
        Object[] values = new Object[texts.length];
        Class<?>[] types = new Class<?>[texts.length];
        for (int i = 0; i < texts.length; i++) {
            values[i] = valueOf(texts[i]);
            types[i] = values[i] instanceof Boolean ? boolean.class : int.class;
        }
        try {
            Method method = Subject.class.getDeclaredMethod(call.group(2), types);
            return String.valueOf(method.invoke(objects.get(call.group(1)), values));
        } catch (InvocationTargetException e) {
            return e.getCause() instanceof NoSuchElementException ? "NoSuchElementException" : "" + e.getCause();
        } catch (ReflectiveOperationException e) {
            return "cannot be called: " + e;
        }
    }

    /** The answer of a line is that of its last call. */
    private static void runLine(String line) {
        Matcher made = MADE.matcher(line);
        Matcher put = PUT.matcher(line);
        if (made.find()) {
            objects.put(made.group(1), new Subject());
        } else if (put.find()) {
            put(objects.get(put.group(1)), put.group(2));
        } else {
            String code = line.contains("//") ? line.substring(0, line.indexOf("//")) : line;
            String got = "";
            for (Matcher call = CALL.matcher(code); call.find(); ) {
                got = answerOf(call);
            }
            Matcher answer = ANSWER.matcher(line);
            due("an answer stands in: " + line, answer.find(), true);
            dueSame(line, got, answer.group(1).equals("NONE") ? "-1" : answer.group(1));
            answers++;
        }
    }

    public static void main(String[] args) throws IOException {
        now = "ReadmeTest";
        for (Matcher block = BLOCK.matcher(Files.readString(Path.of("README.md"))); block.find(); ) {
            if (block.group(1).startsWith("static")) {
                continue; // the helper; Bench has the same
            }
            for (String line : block.group(1).split("\n")) {
                runLine(line);
            }
        }
        due("answers were looked at", answers > 30, true);
        end("ReadmeTest (" + answers + " answers)");
    }
}
