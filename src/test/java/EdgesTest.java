import java.io.IOException;
import java.lang.reflect.InvocationTargetException;
import java.lang.reflect.Method;
import java.nio.file.Files;
import java.nio.file.Path;
import java.util.ArrayList;
import java.util.Comparator;
import java.util.List;

/** Runs the test of each sentence that names a boundary case, and looks whether a sentence of a promise has none. */
public final class EdgesTest {
    private static final Class<?>[] ALL = {DescriptionEdges.class, PartitionEdges.class, QueryEdges.class,
        ChainEdges.class, NumberEdges.class, TextEdges.class, StateEdges.class};
    private static final int PROMISES = 27;

    private EdgesTest() {
    }

    public static void main(String[] args) throws IOException {
        List<Method> tests = tests();
        for (Method test : tests) {
            holds(test);
        }
        everySentence(tests, Files.readString(Path.of("../shared/DOC.md")));
        Check.end();
    }

    /** The tests in the order of the promises. */
    static List<Method> tests() {
        List<Method> tests = new ArrayList<>();
        for (Class<?> part : ALL) {
            for (Method method : part.getDeclaredMethods()) {
                if (method.isAnnotationPresent(Sentence.class)) {
                    tests.add(method);
                }
            }
        }
        tests.sort(Comparator.comparing(EdgesTest::name));
        return tests;
    }

    static String name(Method test) {
        Sentence s = test.getAnnotation(Sentence.class);
        String where = s.promise() == 0 ? "Description" : String.format("Promise %2d", s.promise());
        return where + " (" + test.getName() + "): " + s.words();
    }

    /** Runs a test and tells whether its sentence holds; a call that throws breaks it. */
    static boolean holds(Method test) {
        int before = Check.wrong();
        try {
            test.invoke(null);
        } catch (InvocationTargetException e) {
            Check.holds("no call throws " + e.getCause(), false);
        } catch (IllegalAccessException e) {
            Check.holds("the test can be run", false);
        }
        if (Check.wrong() > before) {
            System.out.println("  - that breaks " + name(test));
        }
        return Check.wrong() == before;
    }

    /** Called by BrokenTest with a broken class beneath: runs the test with this name of a class with that name. */
    public static boolean holds(String part, String method) throws ReflectiveOperationException {
        return holds(Class.forName(part).getDeclaredMethod(method));
    }

    private static void everySentence(List<Method> tests, String document) {
        String[] sections = document.split("\n## ");
        List<List<String>> named = new ArrayList<>();
        for (int p = 0; p <= PROMISES; p++) {
            named.add(new ArrayList<>());
        }
        for (Method test : tests) {
            Sentence s = test.getAnnotation(Sentence.class);
            named.get(s.promise()).add(s.words().replaceAll("\\.$", ""));
            Check.holds("the document has the sentence of " + name(test), section(sections, s.promise()).contains(s.words()));
        }
        for (int p = 1; p <= PROMISES; p++) {
            for (String sentence : sentences(section(sections, p))) {
                Check.holds("promise " + p + " has a test of: " + sentence, named.get(p).contains(sentence));
            }
        }
    }

    /** The section of a promise, or all that stands before the promises, without the signs for code. */
    private static String section(String[] sections, int promise) {
        StringBuilder text = new StringBuilder();
        for (String section : sections) {
            boolean isWanted = promise == 0 ? !section.startsWith("Promise ") : section.startsWith("Promise " + promise + ":");
            if (isWanted) {
                text.append(section.replace("`", "")).append('\n');
            }
        }
        return promise == 0 ? text.toString().replaceAll("\\s+", " ") : text.toString();
    }

    /** The sentences of a promise that must have a test: of each argument, of what is returned, of undoing. */
    private static List<String> sentences(String section) {
        List<String> found = new ArrayList<>();
        String returned = "";
        for (String line : section.split("\n")) {
            String plain = line.replaceAll("\\.$", "");
            if (line.startsWith("- ")) {
                found.add(plain.substring(2));
            } else if (line.endsWith("Can be undone.")) {
                found.add("Can be undone");
            }
            // What a query is for begins like this too, but stands before.
            returned = line.startsWith("Returns ") ? plain : returned;
        }
        if (!returned.isEmpty()) {
            found.addAll(List.of(returned.split("; ")));
        }
        return found;
    }
}
