import java.io.IOException;
import java.nio.file.Files;
import java.nio.file.Path;
import java.util.regex.Matcher;
import java.util.regex.Pattern;

/** What of LANGUAGE.md can be seen by looking at the words of the source, whose path is the first argument. */
public final class SourceTest {
    private static final String[][] RULES = {
        {"1", "\\bpackage\\b"},
        {"2", "->|::|\\bnew\\s+\\w+\\s*\\([^()]*\\)\\s*\\{"},
        {"3", "\\bdouble\\b|\\bfloat\\b|\\bObject\\b|\\bLong\\s+\\w+\\s*[=;]"},
        {"4", "\\bimport\\b|Exact\\b|\\.format\\b|\\.valueOf\\b|\\.split\\b|\\bSystem\\.(?!arraycopy\\b)|\\bThread\\b"
            + "|\\b(Integer|Math)\\.[A-Z]"},
        {"5", "\\bstatic\\s*\\{"},
        {"6", "\\b(throw|throws|try|catch|finally|synchronized|assert|hashCode|toString)\\b"},
        {"10", "\"\\s*\\+|\\+\\s*\""},
        {"13", "\\b(nanoTime|currentTimeMillis|Random|random|getenv)\\b"},
    };
    private static final int METHOD_LINES = 60;
    private static int wrong = 0;

    private static void fault(String rule, int line, String what) {
        wrong++;
        System.out.println("SourceTest: rule " + rule + ", line " + line + ": " + what);
    }

    private static int lineOf(String source, int at) {
        return (int) source.substring(0, at).chars().filter(c -> c == '\n').count() + 1;
    }

    /** The source with blanks for its comments, so that places stay. */
    private static String bare(String source) {
        Matcher m = Pattern.compile("/\\*.*?\\*/|//[^\n]*", Pattern.DOTALL).matcher(source);
        return m.replaceAll(r -> Matcher.quoteReplacement(r.group().replaceAll("[^\n]", " ")));
    }

    private static void words(String source) {
        for (String[] rule : RULES) {
            Matcher m = Pattern.compile(rule[1]).matcher(source);
            while (m.find()) fault(rule[0], lineOf(source, m.start()), m.group());
        }
    }

    private static void methods(String source) {
        Matcher m = Pattern.compile("\n( +)(public|private)[^;={}]*\\(([^;{}]*)\\) \\{").matcher(source);
        int methods = 0;
        while (m.find()) {
            methods++;
            int from = lineOf(source, m.start(1));
            int end = source.indexOf("\n" + m.group(1) + "}", m.end());
            int lines = lineOf(source, end + 1) - from + 1;
            if (end < 0 || lines > METHOD_LINES) fault("11", from, "a method of " + lines + " lines");
            if (m.group(3).split(",").length > 7) fault("11", from, "more than seven parameters");
        }
        if (methods < 38) fault("1", 1, "only " + methods + " methods were found");
    }

    public static void main(String[] args) throws IOException {
        String source = bare(Files.readString(Path.of(args[0])));
        words(source);
        methods(source);
        System.out.println(wrong == 0 ? "SourceTest: the words are as LANGUAGE.md asks" : "SourceTest: " + wrong + " faults");
        System.exit(wrong == 0 ? 0 : 1);
    }
}
