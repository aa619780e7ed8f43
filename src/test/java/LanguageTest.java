import java.io.IOException;
import java.nio.file.Files;
import java.nio.file.Path;
import java.util.regex.Matcher;
import java.util.regex.Pattern;

/** The rules of LANGUAGE.md that can be seen from the text of the class; it is run in the project's folder. */
public final class LanguageTest {
    private static final String[] RULED_OUT = {"\\bimport\\b", "\\bpackage\\b", "\\bthrow\\b", "\\bthrows\\b", "\\btry\\b",
        "\\bcatch\\b", "\\bsynchronized\\b", "\\bassert\\b", "->", "::", "\\bSystem\\.(?!arraycopy)", "\\bThread\\b",
        "\\bgetClass\\b", "\\bhashCode\\b", "\\btoString\\b", "Exact\\b", "@", "[^\\x00-\\x7f]", "\\bdouble\\b",
        "\\bfloat\\b", "\\bString\\b", "\\bwhile \\(true\\)", "for \\(;;", "static \\{"};

    private LanguageTest() {
    }

    public static void main(String[] args) throws IOException {
        String text = Files.readString(Path.of("src/main/java/UncrossedParts.java"));
        String code = text.replaceAll("(?s)/\\*.*?\\*/", "").replaceAll("//[^\n]*", "");
        for (String ruled : RULED_OUT) {
            Matcher found = Pattern.compile(ruled).matcher(code);
            Check.holds("without " + ruled, !found.find());
        }
        arraysAndObjectsInConstructorsAlone(code);
        shortMethods(code);
        Check.end();
    }

    /** Tells whether a method begins here, of the class or of one inside it. */
    private static boolean begins(String line) {
        return line.matches(" {4}( {4})?[a-zA-Z].*\\) \\{") && !line.matches(" *(if|for|while|switch|else)\\b.*");
    }

    private static void arraysAndObjectsInConstructorsAlone(String code) {
        String method = "";
        for (String line : code.split("\n")) {
            method = begins(line) ? line.trim() : method;
            if (line.matches(".*\\bnew\\b.*")) {
                Check.holds("a constructor makes something, not " + method,
                    method.matches("(public )?[A-Z]\\w*\\(\\) \\{"));
            }
        }
    }

    private static void shortMethods(String code) {
        String method = "";
        String end = "";
        int length = 0;
        for (String line : code.split("\n")) {
            if (begins(line)) {
                method = line.trim();
                end = line.replaceAll("\\S.*", "") + "}";
                length = 0;
            }
            length++;
            if (line.equals(end)) {
                Check.holds(method + " is short", length <= 60);
                end = "";
            }
        }
    }
}
