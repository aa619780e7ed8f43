import java.io.ByteArrayOutputStream;
import java.io.IOException;
import java.io.OutputStream;
import java.io.PrintStream;
import java.lang.reflect.Method;
import java.net.URL;
import java.net.URLClassLoader;
import java.nio.file.Files;
import java.nio.file.Path;
import java.util.ArrayList;
import java.util.Comparator;
import java.util.List;
import java.util.stream.Stream;
import javax.tools.JavaCompiler;
import javax.tools.ToolProvider;

/** Breaks the class, sentence by sentence: the test of the sentence must fail then. */
public final class BrokenTest {
    private static final Path SOURCE = Path.of("src/main/java/UncrossedParts.java");

    /** A test with one of the changes that break its sentence, and what was found out about it. */
    private static final class Trial {
        private final Method test;
        private final Broken change;
        private final int index;
        private boolean isTried = true;
        private String complaint = "";

        Trial(Method test, Broken change, int index) {
            this.test = test;
            this.change = change;
            this.index = index;
        }

        private String broken(String source) {
            int from = source.indexOf(change.in());
            int place = from < 0 ? -1 : source.indexOf(change.was(), from);
            isTried = place >= 0;
            return isTried
                ? source.substring(0, place) + change.is() + source.substring(place + change.was().length()) : source;
        }

        void run(JavaCompiler compiler, String source, Path folder) {
            String broken = broken(source);
            if (!isTried) {
                return;
            }
            try {
                Path own = Files.createDirectory(folder.resolve("broken" + index));
                Path file = Files.writeString(own.resolve("UncrossedParts.java"), broken);
                ByteArrayOutputStream said = new ByteArrayOutputStream();
                if (compiler.run(null, said, said, "-proc:none", "-d", own.toString(), file.toString()) != 0) {
                    complaint = "does not compile: " + said;
                } else if (holds(own)) {
                    complaint = "is not noticed";
                }
            } catch (IOException | ReflectiveOperationException e) {
                complaint = "can't be tried: " + e;
            }
        }

        private boolean holds(Path own) throws IOException, ReflectiveOperationException {
            List<URL> urls = new ArrayList<>();
            urls.add(own.toUri().toURL());
            for (String path : System.getProperty("java.class.path").split(System.getProperty("path.separator"))) {
                urls.add(Path.of(path).toUri().toURL());
            }
            // The project's own classes are loaded once more, above the broken class.
            try (URLClassLoader loader = new URLClassLoader(urls.toArray(new URL[0]), ClassLoader.getPlatformClassLoader())) {
                Method holds = loader.loadClass("SentencesTest").getMethod("holds", String.class, String.class);
                return (Boolean) holds.invoke(null, test.getDeclaringClass().getName(), test.getName());
            }
        }
    }

    private BrokenTest() {
    }

    public static void main(String[] args) throws IOException {
        List<Trial> trials = trials();
        JavaCompiler compiler = ToolProvider.getSystemJavaCompiler();
        String source = Files.readString(SOURCE);
        Path folder = Files.createTempDirectory("broken");
        PrintStream out = System.out;
        // The broken tests tell their wrong answers, which nobody wants to read.
        System.setOut(new PrintStream(OutputStream.nullOutputStream()));
        trials.parallelStream().forEach(trial -> trial.run(compiler, source, folder));
        System.setOut(out);
        remove(folder);
        tell(trials);
        Check.end();
    }

    private static List<Trial> trials() {
        List<Trial> trials = new ArrayList<>();
        for (Method test : SentencesTest.tests()) {
            Broken[] changes = test.getAnnotationsByType(Broken.class);
            Check.holds("there is a change that breaks " + SentencesTest.name(test), changes.length > 0);
            for (Broken change : changes) {
                trials.add(new Trial(test, change, trials.size()));
            }
        }
        return trials;
    }

    /** A change whose place is gone from the class proves nothing: it is told, but the class may have been rewritten. */
    private static void tell(List<Trial> trials) {
        int tried = 0;
        for (Trial trial : trials) {
            String name = SentencesTest.name(trial.test) + ", broken by '" + trial.change.is() + "' in '" + trial.change.in() + "'";
            if (trial.isTried) {
                tried++;
                Check.holds(name + " " + trial.complaint, trial.complaint.isEmpty());
            } else {
                System.out.println("no place for: " + name);
            }
        }
        System.out.println(tried + " of " + trials.size() + " changes tried");
    }

    private static void remove(Path folder) throws IOException {
        try (Stream<Path> all = Files.walk(folder)) {
            for (Path path : all.sorted(Comparator.reverseOrder()).toList()) {
                Files.delete(path);
            }
        }
    }
}
