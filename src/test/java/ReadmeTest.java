import java.io.IOException;
import java.lang.reflect.InvocationTargetException;
import java.lang.reflect.Method;
import java.lang.reflect.Modifier;
import java.nio.file.Files;
import java.nio.file.Path;
import java.util.Set;
import java.util.TreeSet;
import java.util.regex.Matcher;
import java.util.regex.Pattern;

/** Runs the calls that README.md shows: each must answer what stands behind it, and each of the face is shown. */
public final class ReadmeTest {
    private static final Check CHECK = new Check("ReadmeTest");
    private static final Pattern CALL =
            Pattern.compile("x\\.(\\w+)\\(([^)]*)\\);\\s+// (?:(-?\\d+)(?::.*)?|throws (\\w+))");

    public static void main(String[] args) throws IOException, IllegalAccessException {
        SandFlags x = new SandFlags();
        Set<String> shown = new TreeSet<>();
        for (String line : Files.readAllLines(Path.of("README.md"))) {
            if (line.startsWith("x.")) {
                Matcher call = CALL.matcher(line);
                CHECK.isTrue("'" + line + "' is a call with its answer", call.matches());
                if (call.matches()) {
                    shown.add(call.group(1));
                    String want = call.group(3) != null ? call.group(3) : call.group(4);
                    String got = answer(x, call.group(1), call.group(2));
                    CHECK.isTrue("'" + line + "' answered " + got, want.equals(got));
                }
            }
        }
        for (Method m : SandFlags.class.getDeclaredMethods()) {
            if (Modifier.isPublic(m.getModifiers())) {
                CHECK.isTrue("README.md shows " + m.getName(), shown.contains(m.getName()));
            }
        }
        CHECK.end();
    }

    private static String answer(SandFlags x, String name, String texts) throws IllegalAccessException {
        for (Method m : SandFlags.class.getDeclaredMethods()) {
            if (Modifier.isPublic(m.getModifiers()) && m.getName().equals(name)) {
                try {
                    return m.invoke(x, arguments(m.getParameterTypes(), texts)).toString();
                } catch (InvocationTargetException thrown) {
                    return thrown.getCause().getClass().getSimpleName();
                }
            }
        }
        return "no such call";
    }

    private static Object[] arguments(Class<?>[] types, String texts) {
        String[] each = texts.isEmpty() ? new String[0] : texts.split(", ");
        CHECK.due("arguments (" + texts + ")", each.length, types.length);
        Object[] values = new Object[types.length];
        for (int i = 0; i < types.length && i < each.length; i++) {
            values[i] = types[i] == boolean.class ? (Object) Boolean.valueOf(each[i]) : Integer.valueOf(each[i]);
        }
        return values;
    }
}
