import java.lang.reflect.Constructor;
import java.lang.reflect.Field;
import java.lang.reflect.Method;
import java.lang.reflect.Modifier;
import java.util.Arrays;
import java.util.Set;
import java.util.TreeSet;

/** The document's public face, and the rules of LANGUAGE.md that can be seen from the compiled class. */
public final class FaceTest {
    private static final Set<String> FACE = new TreeSet<>(Arrays.asList(
        "int points(int)", "int puts(int, int, int)", "int meets(int, int, int)", "int joins(int, int, int)",
        "int complements(int, int)", "int turns(int, int)", "int takes(int, int)", "int of(int, int)",
        "int row(int, int)", "int below(int, int)", "int count(int)", "int evens()", "int covers(int, int)",
        "int mark(int, int)", "int chains(int, int)", "int marked(int)", "int signed(int, int)",
        "int between(int, int)", "int number(int, int)", "long as(int, int, int)", "int type(int)", "int clear()",
        "int does()", "int back()", "int told(int)", "long digest()"));

    private FaceTest() {
    }

    public static void main(String[] args) {
        Class<?> face = UncrossedParts.class;
        Check.holds("public and final", face.getModifiers() == (Modifier.PUBLIC | Modifier.FINAL));
        methods(face);
        fields(face);
        Constructor<?>[] made = face.getDeclaredConstructors();
        Check.holds("one constructor", made.length == 1 && made[0].getParameterCount() == 0
            && Modifier.isPublic(made[0].getModifiers()));
        Check.holds("some twelve classes", face.getDeclaredClasses().length <= 11);
        for (Class<?> inside : face.getDeclaredClasses()) {
            inside(inside);
        }
        Check.end();
    }

    private static void methods(Class<?> face) {
        Set<String> open = new TreeSet<>();
        for (Method m : face.getDeclaredMethods()) {
            String parameters = Arrays.toString(m.getParameterTypes()).replace("[", "(").replace("]", ")");
            if (!Modifier.isPrivate(m.getModifiers())) {
                open.add(m.getReturnType() + " " + m.getName() + parameters);
                Check.holds(m + " is of the object", m.getModifiers() == Modifier.PUBLIC);
            } else {
                notNamedAsTheFace(m);
            }
            Check.holds(m + " has few parameters", m.getParameterCount() <= 7);
        }
        Check.holds("the face's methods and no others: " + open, open.equals(FACE));
    }

    private static void notNamedAsTheFace(Method m) {
        for (String known : FACE) {
            Check.holds(m + " has a name of its own", !known.contains(" " + m.getName() + "("));
        }
    }

    private static void fields(Class<?> face) {
        int open = 0;
        int own = 0;
        for (Field f : face.getDeclaredFields()) {
            boolean isStatic = Modifier.isStatic(f.getModifiers());
            Check.holds(f + " is final if it is static", !isStatic || Modifier.isFinal(f.getModifiers()));
            own += isStatic ? 0 : 1;
            if (!Modifier.isPrivate(f.getModifiers())) {
                open++;
                Check.holds(f + " is of the face", Set.of("NONE", "BAD", "NO", "FULL").contains(f.getName())
                    && f.getType() == int.class && Modifier.isPublic(f.getModifiers()) && isStatic);
            }
        }
        Check.due("open fields", open, 4);
        Check.holds("some twenty fields", own <= 20);
    }

    private static void inside(Class<?> inside) {
        Check.holds(inside + " is static", Modifier.isStatic(inside.getModifiers()));
        Check.holds(inside + " is not open", !Modifier.isPublic(inside.getModifiers())
            && !Modifier.isProtected(inside.getModifiers()));
        for (Method m : inside.getDeclaredMethods()) {
            notNamedAsTheFace(m);
            Check.holds(m + " has few parameters", m.getParameterCount() <= 7);
        }
        int own = 0;
        for (Field f : inside.getDeclaredFields()) {
            boolean isStatic = Modifier.isStatic(f.getModifiers());
            Check.holds(f + " is final if it is static", !isStatic || Modifier.isFinal(f.getModifiers()));
            own += isStatic ? 0 : 1;
        }
        Check.holds("some twenty fields in " + inside, own <= 20);
    }
}
