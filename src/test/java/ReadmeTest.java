import java.io.ByteArrayOutputStream;
import java.io.File;
import java.io.IOException;
import java.io.PrintStream;
import java.lang.reflect.Method;
import java.lang.reflect.Modifier;
import java.net.URL;
import java.net.URLClassLoader;
import java.nio.file.Files;
import java.nio.file.Path;
import java.util.List;
import java.util.regex.Matcher;
import java.util.regex.Pattern;
import javax.tools.ToolProvider;

/** README.md: its example is compiled and run, and must print what it tells; what it must name is named. */
public final class ReadmeTest {
    private static final Pattern PROGRAM = Pattern.compile("(?s)```java\n(.*?)```");
    private static final Pattern CALL = Pattern.compile("println\\(\\w\\.(\\w+\\([-\\d, ]*\\))\\); +// (-?\\d+)");

    private ReadmeTest() {
    }

    public static void main(String[] args) throws IOException, ReflectiveOperationException {
        String readme = Files.readString(Path.of("README.md"));
        names(readme);
        Matcher program = PROGRAM.matcher(readme);
        Check.holds("there is an example", program.find());
        example(program.group(1), Files.readString(Path.of("../shared/DOC.md")).replaceAll("\\s+", " "));
        Check.holds("there is one example", !program.find());
        Check.end();
    }

    private static void names(String readme) {
        int[] values = {UncrossedParts.NONE, UncrossedParts.BAD, UncrossedParts.NO, UncrossedParts.FULL};
        String[] constants = {"NONE", "BAD", "NO", "FULL"};
        for (int i = 0; i < constants.length; i++) {
            Pattern row = Pattern.compile("\\| `" + constants[i] + "` *\\| " + values[i] + " *\\|");
            Check.holds("the value of " + constants[i] + " is told", row.matcher(readme).find());
        }
        for (Method m : UncrossedParts.class.getDeclaredMethods()) {
            boolean isOpen = Modifier.isPublic(m.getModifiers());
            Check.holds(m.getName() + " is named", !isOpen || readme.contains("`" + m.getName() + "`"));
        }
        List<String> others = List.of("../shared/DOC.md", "new UncrossedParts()", "512 calls", "-1000000000000000",
            "    .ci/run\n", "src/test/java", "../shared/tests", "passed, 0 failed", "exit code is 0");
        for (String other : others) {
            Check.holds("'" + other + "' is named", readme.contains(other));
        }
        for (File test : new File("src/test/java").listFiles()) {
            boolean isTest = test.getName().endsWith("Test.java");
            String name = test.getName().replace(".java", "");
            Check.holds(name + " is named", !isTest || readme.contains("`" + name + "`"));
        }
    }

    /** The answers of the example are those that it tells, and the document tells the same ones. */
    private static void example(String program, String document) throws IOException, ReflectiveOperationException {
        StringBuilder due = new StringBuilder();
        int calls = 0;
        Matcher call = CALL.matcher(program);
        while (call.find()) {
            calls++;
            due.append(call.group(2)).append(System.lineSeparator());
            String said = call.group(1) + " = " + call.group(2) + ";";
            Check.holds("the document tells " + said, document.contains(" " + said));
        }
        Check.holds("the example has calls", calls > 5);
        Check.due("each line that prints tells its answer", calls, program.split("println").length - 1);
        String printed = printed(program);
        Check.holds("the example prints what it tells, not " + printed, printed.equals(due.toString()));
    }

    private static String printed(String program) throws IOException, ReflectiveOperationException {
        Path folder = Files.createTempDirectory("readme");
        Path source = Files.writeString(folder.resolve("Example.java"), program);
        int failed = ToolProvider.getSystemJavaCompiler().run(null, null, null, "-proc:none", "-d", folder.toString(),
            "-cp", System.getProperty("java.class.path"), source.toString());
        Check.due("the example's compiler", failed, 0);
        PrintStream out = System.out;
        ByteArrayOutputStream printed = new ByteArrayOutputStream();
        try (URLClassLoader loader = new URLClassLoader(new URL[] {folder.toUri().toURL()})) {
            System.setOut(new PrintStream(printed));
            loader.loadClass("Example").getMethod("main", String[].class).invoke(null, (Object) new String[0]);
        } finally {
            System.setOut(out);
            Files.deleteIfExists(folder.resolve("Example.class"));
            Files.delete(source);
            Files.delete(folder);
        }
        return printed.toString();
    }
}
