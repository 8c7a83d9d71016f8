import java.io.IOException;
import java.lang.reflect.InvocationTargetException;
import java.lang.reflect.Method;
import java.nio.file.Files;
import java.nio.file.Path;
import java.util.ArrayList;
import java.util.Comparator;
import java.util.List;

/**
 * Runs one test for each sentence of the document that names a boundary. The sentences are looked up in the
 * document, whose path is the first argument: each stands there, and together they leave nothing out.
 */
public final class BoundaryTest {
    private static final Class<?>[] SUITES = {StreetBoundaries.class, GoesBoundaries.class, AskedBoundaries.class,
        ToldBoundaries.class, TapeBoundaries.class, ThingPromises.class, SearchPromises.class, NotePromises.class,
        RefusalBoundaries.class};
    private static final int PROMISES = 38;
    private static int wrong = 0;

    private static void fault(String what) {
        wrong++;
        System.out.println("BoundaryTest: " + what);
    }

    /** The text of the Terms (0) or of a promise behind its signature, with single blanks. */
    private static String part(String doc, int promise) {
        String from = promise == 0 ? "## Terms" : "`: ";
        String to = promise == 0 ? "The constants: " : promise == PROMISES ? "## Not promised" : "## Promise " + (promise + 1) + ":";
        int at = promise == 0 ? 0 : doc.indexOf("## Promise " + promise + ":");
        int begin = doc.indexOf(from, at) + from.length();
        int end = doc.indexOf(to, begin);
        return doc.substring(begin, end).replace("```text", " ").replace("```", " ").replaceAll("==== \\d", " ")
            .replaceAll("\\s+", " ").trim();
    }

    /** What of the part no sentence names, as blanks for what is named. */
    private static String unnamed(String part, List<Method> tests, int promise) {
        StringBuilder left = new StringBuilder(part);
        for (Method test : tests) {
            Sentence sentence = test.getAnnotation(Sentence.class);
            if (sentence.promise() != promise) continue;
            int at = part.indexOf(sentence.value());
            if (at < 0) fault("no such sentence of promise " + promise + ": " + sentence.value());
            for (; at >= 0; at = part.indexOf(sentence.value(), at + 1)) {
                for (int i = 0; i < sentence.value().length(); i++) left.setCharAt(at + i, ' ');
            }
        }
        return left.toString().trim();
    }

    private static List<Method> tests() {
        List<Method> tests = new ArrayList<>();
        for (Class<?> suite : SUITES) {
            List<Method> own = new ArrayList<>();
            for (Method m : suite.getDeclaredMethods()) {
                if (m.isAnnotationPresent(Sentence.class)) own.add(m);
            }
            own.sort(Comparator.comparing(Method::getName));
            tests.addAll(own);
        }
        return tests;
    }

    private static void run(Method test) throws IllegalAccessException {
        Sentence sentence = test.getAnnotation(Sentence.class);
        Boundary.begin((sentence.promise() == 0 ? "Terms: " : "promise " + sentence.promise() + ": ") + sentence.value());
        try {
            test.invoke(null);
        } catch (InvocationTargetException thrown) {
            fault(test + " threw " + thrown.getCause());
        }
    }

    public static void main(String[] args) throws IOException, IllegalAccessException {
        String doc = Files.readString(Path.of(args[0]));
        List<Method> tests = tests();
        for (int promise = 0; promise <= PROMISES; promise++) {
            String left = unnamed(part(doc, promise), tests, promise);
            if (!left.isEmpty()) fault("no test names, of promise " + promise + ": " + left.replaceAll(" {2,}", " .. "));
        }
        for (Method test : tests) run(test);
        wrong += Boundary.wrong();
        System.out.println(wrong == 0 ? "BoundaryTest: " + tests.size() + " sentences hold"
            : "BoundaryTest: " + wrong + " faults");
        System.exit(wrong == 0 ? 0 : 1);
    }
}
