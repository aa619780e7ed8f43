import java.io.IOException;
import java.lang.reflect.Constructor;
import java.lang.reflect.Field;
import java.lang.reflect.Method;
import java.lang.reflect.Modifier;
import java.nio.file.Files;
import java.nio.file.Path;
import java.util.Arrays;
import java.util.Set;
import java.util.TreeSet;
import java.util.regex.Matcher;
import java.util.regex.Pattern;

/** The document's public face, and the rules of LANGUAGE.md that can be seen from the compiled class. */
public final class FaceTest {
    private static final Class<?> FACE = UncrossedParts.class;
    private static final String CONSTANTS = "public static final int NONE = -1, BAD = -2, NO = -3, FULL = -4;";
    private static final String METHODS = "public int points(int k); public int puts(int s, int x, int y);"
        + " public int meets(int s, int a, int b); public int joins(int s, int a, int b);"
        + " public int complements(int s, int a); public int turns(int s, int a); public int takes(int s, int k);"
        + " public int of(int s, int what); public int row(int s, int x); public int below(int a, int b);"
        + " public int count(int what); public int evens(); public int covers(int s, int i); public int mark(int a, int b);"
        + " public int chains(int a, int b); public int marked(int v); public int signed(int a, int b);"
        + " public int between(int a, int b); public int number(int n, int v); public long as(int j, int k, int n);"
        + " public int type(int c); public int clear(); public int does(); public int back(); public int told(int what);"
        + " public long digest();";

    private FaceTest() {
    }

    public static void main(String[] args) throws IOException, ReflectiveOperationException {
        publicAndFinal();
        constants();
        constructor();
        methods();
        promises();
        for (Method m : FACE.getDeclaredMethods()) {
            parameters(m);
        }
        fewFields(FACE);
        Check.holds("some twelve classes", FACE.getDeclaredClasses().length <= 11);
        for (Class<?> inside : FACE.getDeclaredClasses()) {
            inside(inside);
        }
        Check.end();
    }

    @Sentence(words = "public final class UncrossedParts {")
    @Broken(in = "public final class", was = "public final class", is = "public class")
    @Broken(in = "public final class", was = "public final class", is = "final class")
    static void publicAndFinal() {
        Check.due("public and final, nothing else", FACE.getModifiers(), Modifier.PUBLIC | Modifier.FINAL);
        Check.holds("it has this name and no package", FACE.getName().equals("UncrossedParts"));
        Check.holds("it extends nothing", FACE.getSuperclass() == Object.class && FACE.getInterfaces().length == 0);
        Check.due("it has no type parameters", FACE.getTypeParameters().length, 0);
    }

    /** The values are read from the class itself: the compiler has put its own copies of them into the tests. */
    @Sentence(words = CONSTANTS)
    @Broken(in = "public static final int NONE", was = "NONE = -1", is = "NONE = -5")
    @Broken(in = "public static final int NONE", was = "BAD = -2", is = "BAD = -5")
    @Broken(in = "public static final int NONE", was = "NO = -3", is = "NO = -5")
    @Broken(in = "public static final int NONE", was = "FULL = -4", is = "FULL = -5")
    @Broken(in = "public final class", was = "public static final int NONE", is = "static final int NONE")
    @Broken(in = "public final class", was = "public static final int NONE", is = "public static int NONE")
    @Broken(in = "public final class", was = "public static final int NONE", is = "public static final short NONE")
    @Broken(in = "public final class", was = "private int bads", is = "int bads")
    @Broken(in = "public final class", was = "private final Past past", is = "protected final Past past")
    @Broken(in = "public final class", was = "private static final int SLOTS", is = "public static final int SLOTS")
    static void constants() throws IllegalAccessException {
        Matcher named = Pattern.compile("(\\w+) = (-\\d)").matcher(CONSTANTS);
        Set<String> names = new TreeSet<>();
        while (named.find()) {
            names.add(named.group(1));
            for (Field f : FACE.getDeclaredFields()) {
                if (f.getName().equals(named.group(1))) {
                    Check.holds(f + " is an int", f.getType() == int.class);
                    Check.due(f + ": modifiers", f.getModifiers(), Modifier.PUBLIC | Modifier.STATIC | Modifier.FINAL);
                    f.setAccessible(true);
                    Check.due(f.getName(), ((Number) f.get(null)).longValue(), Long.parseLong(named.group(2)));
                }
            }
        }
        Set<String> open = new TreeSet<>();
        for (Field f : FACE.getDeclaredFields()) {
            if (!Modifier.isPrivate(f.getModifiers())) {
                open.add(f.getName());
            }
        }
        Check.due("four constants", names.size(), 4);
        Check.holds("the face's constants and no other open fields: " + open, open.equals(names));
    }

    @Sentence(words = "public UncrossedParts();")
    @Broken(in = "public UncrossedParts()", was = "public UncrossedParts()", is = "UncrossedParts()")
    @Broken(in = "public UncrossedParts()", was = "public UncrossedParts()",
        is = "UncrossedParts(int n) { this(); } public UncrossedParts()")
    static void constructor() {
        Constructor<?>[] made = FACE.getDeclaredConstructors();
        Check.due("constructors, private ones too", made.length, 1);
        for (Constructor<?> one : made) {
            Check.due(one + ": modifiers", one.getModifiers(), Modifier.PUBLIC);
            Check.due(one + ": parameters", one.getParameterCount(), 0);
            Check.due(one + ": exceptions", one.getExceptionTypes().length, 0);
        }
    }

    @Sentence(words = METHODS + " }")
    @Broken(in = "public int told(", was = "public int told(int what)", is = "int told(int what)")
    @Broken(in = "public int told(", was = "public int told(int what)", is = "protected int told(int what)")
    @Broken(in = "private int bad()", was = "private int bad()", is = "int bad()")
    @Broken(in = "private int no()", was = "private int no()", is = "protected int no()")
    @Broken(in = "private boolean isLabels(", was = "private boolean isLabels(", is = "public boolean isLabels(")
    @Broken(in = "private static int choose(", was = "private static int choose(", is = "static int choose(")
    @Broken(in = "public int clear()", was = "public int clear()", is = "public synchronized int clear()")
    @Broken(in = "public int evens()", was = "public int evens()",
        is = "public int evens(int n) { return n; } public int evens()")
    static void methods() {
        Set<String> open = new TreeSet<>();
        for (Method m : FACE.getDeclaredMethods()) {
            if (!Modifier.isPrivate(m.getModifiers())) {
                open.add(signature(m));
                Check.due(m + ": modifiers", m.getModifiers(), Modifier.PUBLIC);
                Check.due(m + ": exceptions", m.getExceptionTypes().length, 0);
            }
        }
        Set<String> due = new TreeSet<>();
        for (String method : METHODS.split(";")) {
            due.add(withoutNames(method.replace("public", "")));
        }
        Check.due("methods of the face", due.size(), 26);
        Check.holds("the face's methods and no others: " + open, open.equals(due));
    }

    private static String signature(Method m) {
        String parameters = Arrays.toString(m.getParameterTypes());
        return m.getReturnType() + " " + m.getName() + parameters.replace("[", "(").replace("]", ")");
    }

    /** A method's line without the names of its parameters, all of which are ints. */
    private static String withoutNames(String method) {
        return method.replaceAll("int \\w+(?=[,)])", "int").trim();
    }

    /** The signatures of the promises are those of the face, which methods() and constructor() look for. */
    @Sentence(words = "The constructor and the methods follow, a promise each: the signature, then what it does.")
    @Broken(in = "public long digest()", was = "public long digest()", is = "long digest()")
    @Broken(in = "public UncrossedParts()", was = "public UncrossedParts()", is = "UncrossedParts()")
    static void promises() throws IOException {
        Set<String> open = new TreeSet<>();
        for (Method m : FACE.getMethods()) {
            open.add(signature(m));
        }
        Matcher promise = Pattern.compile("(?m)^## Promise (\\d+): (.*)\n\n`(.*)`\n")
            .matcher(Files.readString(Path.of("../shared/DOC.md")));
        int count = 0;
        StringBuilder methods = new StringBuilder();
        while (promise.find()) {
            String signature = promise.group(3);
            Check.due("promise " + promise.group(1), Integer.parseInt(promise.group(1)), ++count);
            if (count == 1) {
                Check.holds("the first one is the constructor", signature.equals("UncrossedParts()"));
                Check.due("it can be used by all", FACE.getConstructors().length, 1);
            } else {
                Check.holds(signature + " is named so", signature.contains(" " + promise.group(2) + "("));
                Check.holds(signature + " can be used by all", open.contains(withoutNames(signature)));
                methods.append(count > 2 ? " " : "").append("public ").append(signature).append(';');
            }
        }
        Check.due("promises", count, 27);
        Check.holds("each method of the face has one, in the same order", methods.toString().equals(METHODS));
    }

    private static void parameters(Method m) {
        if (Modifier.isPrivate(m.getModifiers())) {
            Check.holds(m + " has a name of its own", !METHODS.contains(" " + m.getName() + "("));
        }
        Check.holds(m + " has few parameters", m.getParameterCount() <= 7);
    }

    private static void inside(Class<?> inside) {
        Check.holds(inside + " is static", Modifier.isStatic(inside.getModifiers()));
        Check.holds(inside + " is not open", !Modifier.isPublic(inside.getModifiers())
            && !Modifier.isProtected(inside.getModifiers()));
        for (Method m : inside.getDeclaredMethods()) {
            parameters(m);
        }
        fewFields(inside);
    }

    private static void fewFields(Class<?> any) {
        int own = 0;
        for (Field f : any.getDeclaredFields()) {
            boolean isStatic = Modifier.isStatic(f.getModifiers());
            Check.holds(f + " is final if it is static", !isStatic || Modifier.isFinal(f.getModifiers()));
            own += isStatic ? 0 : 1;
        }
        Check.holds("some twenty fields in " + any, own <= 20);
    }
}
