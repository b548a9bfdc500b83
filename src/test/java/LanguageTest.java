import java.io.IOException;
import java.nio.file.Files;
import java.nio.file.Path;
import java.util.Set;
import java.util.regex.Matcher;
import java.util.regex.Pattern;

/** What of LANGUAGE.md can be seen in the words of the class's source, without its comments. */
public final class LanguageTest extends Bench {
    private static final Set<String> IMPORTS = Set.of(
        "java.util.Arrays", "java.util.ArrayList", "java.util.List", "java.util.Iterator", "java.util.NoSuchElementException");
    private static final Set<String> LIBRARY = Set.of("Arrays.copyOf", "Arrays.copyOfRange", "Arrays.fill",
        "System.arraycopy", "Math.max", "Math.min", "Math.abs", "Math.floorDiv", "Math.floorMod",
        "Integer.bitCount", "Integer.compare", "Integer.max", "Integer.min", "Long.bitCount", "Long.compare");
    private static final String[] NEVER = {"->", "::", "\\bfinally\\b", "\\bsynchronized\\b", "\\bassert\\b",
        "\\bhashCode\\b", "\\btoString\\b", "\\bgetMessage\\b", "\\bThrowable\\b", "\\bError\\b", "\\bException\\b",
        "catch \\((ArrayIndexOutOfBounds|NullPointer|ClassCast|NegativeArraySize|ArrayStore)Exception",
        "\\bpackage\\b", "\\bprotected\\b", "\\bnative\\b", "\\bvolatile\\b", "\\bThread\\b", "\\bRandom\\b",
        "\\w+Exact\\(", "\\[\\]\\[\\]\\[\\]", "static \\{", "\" \\+", "\\+ \""};
    private static final int MOST_LINES = 60;

    private static String sourceWithoutComments() throws IOException {
        String source = Files.readString(Path.of("src/main/java/LearntReasons.java"));
        return source.replaceAll("(?s)/\\*.*?\\*/", "").replaceAll("//[^\n]*", "");
    }

    private static void lookAtLibrary(String code) {
        for (Matcher m = Pattern.compile("import ([^;]+);").matcher(code); m.find(); ) {
            due("rule 4: import " + m.group(1), IMPORTS.contains(m.group(1)), true);
        }
        for (Matcher m = Pattern.compile("\\b(Arrays|System|Math|Integer|Long|Character|String)\\.\\w+").matcher(code); m.find(); ) {
            due("rule 4: " + m.group(), LIBRARY.contains(m.group()), true);
        }
    }

    private static void lookAtWords(String code) {
        for (String never : NEVER) {
            due("rules 1 to 6: " + never, Pattern.compile(never).matcher(code).find(), false);
        }
        for (Matcher m = Pattern.compile("throw (?!new NoSuchElementException\\(\\);)[^;]*;").matcher(code); m.find(); ) {
            due("the document names no other exception: " + m.group(), true, false);
        }
    }

    /** A method ends at the first line that closes a brace as far in as its own head. */
    private static void lookAtMethods(String code) {
        Matcher m = Pattern.compile("(?s)\n( {4}| {8})(?! )(?!\\w* ?class)([^\n;={}]*\\([^\n]*\\)[^\n;=]*\\{)\n.*?\n\\1\\}").matcher(code);
        int methods = 0;
        while (m.find()) {
            int lines = m.group().split("\n").length - 1;
            due("rule 11: " + lines + " lines of " + m.group(2), lines <= MOST_LINES, true);
            methods++;
        }
        due("methods were looked at", methods > 100, true);
    }

    public static void main(String[] args) throws IOException {
        now = "LanguageTest";
        String code = sourceWithoutComments();
        lookAtLibrary(code);
        lookAtWords(code);
        lookAtMethods(code);
        for (char c : Files.readString(Path.of("src/main/java/LearntReasons.java")).toCharArray()) {
            due("rule 4: a sign above 127 (" + (int) c + ")", c <= 127, true);
        }
        end("LanguageTest");
    }
}
