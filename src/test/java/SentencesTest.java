import java.io.IOException;
import java.lang.reflect.InvocationTargetException;
import java.lang.reflect.Method;
import java.nio.file.Files;
import java.nio.file.Path;
import java.util.ArrayList;
import java.util.Comparator;
import java.util.List;

/** Runs the test of each sentence of the document, and looks whether the document says a word that has no test. */
public final class SentencesTest {
    private static final Class<?>[] ALL = {FaceTest.class, ExamplesTest.class, DescriptionBasics.class,
        PromiseBasics.class, DescriptionEdges.class, PartitionEdges.class, QueryEdges.class, ChainEdges.class,
        NumberEdges.class, TextEdges.class, StateEdges.class};
    private static final int PROMISES = 27;
    private static final String STRUCK = "#";
    /** What only parts the document and promises nothing; the signatures of the promises are a matter of FaceTest. */
    private static final String HEADINGS = "(?m)^(#.*|----.*|```.*|`[^`]*`"
        + "|(Partitions|Covers, chains and intervals|Numbers|The text|States and error codes)\\. )";

    private SentencesTest() {
    }

    public static void main(String[] args) throws IOException {
        List<Method> tests = tests();
        for (Method test : tests) {
            holds(test);
        }
        String document = Files.readString(Path.of("../shared/DOC.md"));
        for (int promise = 0; promise <= PROMISES; promise++) {
            everyWord(promise, said(document, promise), tests);
        }
        Check.end();
    }

    /** The tests in the order of the promises. */
    static List<Method> tests() {
        List<Method> tests = new ArrayList<>();
        for (Class<?> part : ALL) {
            for (Method method : part.getDeclaredMethods()) {
                if (method.isAnnotationPresent(Sentence.class)) {
                    tests.add(method);
                }
            }
        }
        tests.sort(Comparator.comparing(SentencesTest::name));
        return tests;
    }

    static String name(Method test) {
        Sentence s = test.getAnnotation(Sentence.class);
        String where = s.promise() == 0 ? "Before promise 1" : String.format("Promise %2d", s.promise());
        return where + " (" + test.getName() + "): " + s.words();
    }

    /** Runs a test and tells whether its sentence holds; a call that throws breaks it. */
    static boolean holds(Method test) {
        int before = Check.wrong();
        try {
            test.invoke(null);
        } catch (InvocationTargetException e) {
            Check.holds("no call throws " + e.getCause(), false);
        } catch (IllegalAccessException e) {
            Check.holds("the test can be run", false);
        }
        if (Check.wrong() > before) {
            System.out.println("  - that breaks " + name(test));
        }
        return Check.wrong() == before;
    }

    /** Called by BrokenTest with a broken class beneath: runs the test with this name of a class with that name. */
    public static boolean holds(String part, String method) throws ReflectiveOperationException {
        return holds(Class.forName(part).getDeclaredMethod(method));
    }

    /** What the document says in a promise, or before the promises, without headings and without signs for code. */
    private static String said(String document, int promise) {
        StringBuilder said = new StringBuilder();
        for (String section : ("\n" + document).split("(?=\n## )")) {
            boolean isPromise = section.startsWith("\n## Promise ");
            boolean isWanted = promise == 0 ? !isPromise : section.startsWith("\n## Promise " + promise + ":");
            if (isWanted && !section.startsWith("\n## Not promised")) {
                said.append(section.replaceAll(HEADINGS, "").replaceAll("(?m)^- ", "").replace("`", ""));
            }
        }
        return said.toString().replaceAll("\\s+", " ");
    }

    /** Strikes the words of each test, the longest ones first: each test must find its own, and no word may be left. */
    private static void everyWord(int promise, String said, List<Method> tests) {
        List<Method> longestFirst = new ArrayList<>(tests);
        longestFirst.removeIf(test -> test.getAnnotation(Sentence.class).promise() != promise);
        longestFirst.sort(Comparator.comparing(test -> -test.getAnnotation(Sentence.class).words().length()));
        String left = said;
        for (Method test : longestFirst) {
            String words = test.getAnnotation(Sentence.class).words();
            int place = left.indexOf(words);
            Check.holds("the document has the sentence of " + name(test) + ", and no other test has it", place >= 0);
            if (place >= 0) {
                left = left.substring(0, place) + STRUCK + left.substring(place + words.length());
            }
        }
        for (String words : left.split(STRUCK)) {
            Check.holds("there is a test of what promise " + promise + " says: " + words, words.matches("\\W*"));
        }
    }
}
