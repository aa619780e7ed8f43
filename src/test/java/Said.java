import java.lang.reflect.Method;
import java.util.ArrayList;
import java.util.List;
import java.util.regex.Matcher;
import java.util.regex.Pattern;

/** Calls that a text tells together with their answers, such as "puts(0, 0, 2) = 1", made on an object. */
final class Said {
    private static final Pattern CALL = Pattern.compile("(\\w+)\\(([-\\d, ]*)\\) = (-?\\d+)");

    private Said() {
    }

    /** The calls of a text with the answers that it tells. */
    static List<String> calls(String text) {
        List<String> calls = new ArrayList<>();
        Matcher found = CALL.matcher(text);
        while (found.find()) {
            calls.add(found.group());
        }
        return calls;
    }

    /** Makes all calls of a text on a new object, in their order. */
    static void made(String text) {
        UncrossedParts x = new UncrossedParts();
        for (String call : calls(text)) {
            Matcher parts = CALL.matcher(call);
            Check.holds(call + " is a call", parts.matches());
            long due = Long.parseLong(parts.group(3));
            Check.due(parts.group(1) + "(" + parts.group(2) + ")", answer(x, parts.group(1), parts.group(2)), due);
        }
    }

    private static long answer(UncrossedParts x, String name, String arguments) {
        String[] split = arguments.isEmpty() ? new String[0] : arguments.split(", ");
        Class<?>[] types = new Class<?>[split.length];
        Object[] values = new Object[split.length];
        for (int i = 0; i < split.length; i++) {
            types[i] = int.class;
            values[i] = Integer.valueOf(split[i]);
        }
        try {
            Method method = UncrossedParts.class.getMethod(name, types);
            return ((Number) method.invoke(x, values)).longValue();
        } catch (ReflectiveOperationException e) {
            throw new IllegalStateException(name + "(" + arguments + ") can't be called", e);
        }
    }
}
