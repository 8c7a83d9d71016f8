import java.io.IOException;
import java.lang.reflect.Method;
import java.lang.reflect.Modifier;
import java.nio.file.Files;
import java.nio.file.Path;
import java.util.ArrayList;
import java.util.List;
import java.util.Set;
import java.util.TreeSet;
import java.util.regex.Matcher;
import java.util.regex.Pattern;

/**
 * What README.md (the first argument) tells of the use: its pieces of Java become one program in a directory (the
 * second), which fails if a call answers otherwise than it stands behind the //; its first commands, which compile
 * and run that program, become a script beside it. Its table of calls is the public face.
 */
public final class ReadmeTest {
    private static final Pattern ANSWERED = Pattern.compile("(?:int (\\w+) = )?(.+);\\s+// (-?\\d+)(?:: .*)?");
    private static int wrong = 0;

    private static void check(boolean isSo, String what) {
        if (!isSo) {
            wrong++;
            System.out.println("ReadmeTest: " + what);
        }
    }

    private static List<String> pieces(String readme, String language) {
        List<String> pieces = new ArrayList<>();
        Matcher m = Pattern.compile("```" + language + "\n(.*?)```", Pattern.DOTALL).matcher(readme);
        while (m.find()) pieces.add(m.group(1));
        return pieces;
    }

    /** The line, and behind it or around it what looks at the answer. */
    private static String lookedAt(String line) {
        Matcher m = ANSWERED.matcher(line.strip());
        if (!m.matches()) {
            check(!line.contains("//"), "no answer can be read from: " + line);
            return line;
        }
        String declared = m.group(1) == null ? "" : "int " + m.group(1) + " = " + m.group(2) + "; ";
        String answer = m.group(1) == null ? m.group(2) : m.group(1);
        return declared + "due(\"" + m.group(2) + "\", " + answer + ", " + m.group(3) + "L);";
    }

    private static String program(List<String> pieces) {
        StringBuilder s = new StringBuilder("public final class Yours {\n    static int answers = 0, wrong = 0;\n\n")
            .append("    static void due(String call, long got, long want) {\n        answers++;\n")
            .append("        if (got == want) return;\n        wrong++;\n")
            .append("        System.out.println(\"README.md: \" + call + \" answered \" + got + \", there stands \" + want);\n    }\n\n")
            .append("    public static void main(String[] args) {\n");
        for (String piece : pieces) {
            for (String line : piece.split("\n")) s.append("        ").append(lookedAt(line)).append('\n');
        }
        return s.append("        System.out.println(\"README.md: \" + (answers - wrong) + \" of \" + answers + \" answers hold\");\n")
            .append("        System.exit(wrong == 0 && answers > 0 ? 0 : 1);\n    }\n}\n").toString();
    }

    /** Each call with how many arguments it has. */
    private static void table(String readme) {
        Set<String> told = new TreeSet<>();
        String rows = readme.substring(readme.indexOf("### All calls"), readme.indexOf("### What a call refuses"));
        Matcher m = Pattern.compile("`(\\w+)\\(([^()]*)\\)`").matcher(rows);
        while (m.find()) {
            int many = m.group(2).isEmpty() ? 0 : m.group(2).split(",").length;
            check(told.add(m.group(1) + " " + many), "told twice: " + m.group());
        }
        Set<String> face = new TreeSet<>();
        for (Method method : PickedMatch.class.getDeclaredMethods()) {
            if (Modifier.isPublic(method.getModifiers())) face.add(method.getName() + " " + method.getParameterCount());
        }
        check(told.equals(face), "the table has " + told + ", the face " + face);
    }

    public static void main(String[] args) throws IOException {
        String readme = Files.readString(Path.of(args[0]));
        List<String> pieces = pieces(readme, "java");
        List<String> commands = pieces(readme, "sh");
        check(!pieces.isEmpty(), "no piece of Java");
        check(commands.size() == 2 && commands.get(1).equals(".ci/run\n"), "the commands are " + commands);
        table(readme);
        if (wrong == 0) {
            Files.writeString(Path.of(args[1], "Yours.java"), program(pieces));
            Files.writeString(Path.of(args[1], "commands.sh"), commands.get(0));
        }
        System.exit(wrong == 0 ? 0 : 1);
    }
}
