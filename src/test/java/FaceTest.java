import java.io.IOException;
import java.lang.reflect.Constructor;
import java.lang.reflect.Field;
import java.lang.reflect.Method;
import java.lang.reflect.Modifier;
import java.nio.file.Files;
import java.nio.file.Path;
import java.util.ArrayList;
import java.util.Arrays;
import java.util.Collections;
import java.util.List;
import java.util.regex.Pattern;

/** The public face, and those rules of LANGUAGE.md that the class's text and members show. */
public final class FaceTest {
    private static final Check CHECK = new Check("FaceTest");
    private static final String[] FACE = {
        "int mile(int,int)", "int bank(int,int,int)", "int gauge(int,int,int)", "int may(int,int)",
        "int safe(int,int,int)", "int longest(int,int,int)", "int flags(int,int,int,int)",
        "int flagAt(int,int,int,int,int)", "int crowd(int,int,int)", "int guards(int)", "int roster(int,int)",
        "int rosterAt(int,int,int,int)", "int water(int,int,int)", "int set(int,int)", "int bather(int,int)",
        "int minutes(int)", "int batherOf(int,int)", "int parts(int,int)", "int drift(int,int,int)", "int drifts()",
        "int look(int,int)", "long now(int,boolean)", "int boat(int)", "int seek(int,int,int)", "int chance(int,int)",
        "int child(boolean,int)", "int joins(int)", "int joined(int)", "int sure(int)", "int report(int,int,int)",
        "int rescues(int)", "int rescue(int,int)", "int rule(int,int,int,int,int)", "int jelly(int,int,int)",
        "int colour(int,int)", "int days(int)", "int drawn(int,int,int)", "int counted(int,int)", "int count(int)"};
    private static final String[] FORBIDDEN = {
        "->", "::", "\\btry\\b", "\\bcatch\\b", "\\bfinally\\b", "\\bsynchronized\\b", "\\bassert\\b", "\\bdouble\\b",
        "\\bfloat\\b", "Exact\\(", "\\bpackage\\b", "import (?!java\\.util\\.Arrays;)", "\\bSystem\\.(?!arraycopy)",
        "\\bprotected\\b", "boolean\\[\\]\\[\\]", "@"};

    public static void main(String[] args) throws IOException {
        members();
        nested();
        text();
        CHECK.end();
    }

    private static void members() {
        List<String> want = new ArrayList<>(Arrays.asList(FACE));
        List<String> got = new ArrayList<>();
        for (Method m : SandFlags.class.getDeclaredMethods()) {
            if (Modifier.isPublic(m.getModifiers())) {
                String parameters = String.join(",", Arrays.stream(m.getParameterTypes()).map(Class::getName).toList());
                got.add(m.getReturnType().getName() + " " + m.getName() + "(" + parameters + ")");
                CHECK.isTrue(m + " is of the object", !Modifier.isStatic(m.getModifiers()));
                List<Class<?>> thrown = List.of(m.getExceptionTypes());
                CHECK.isTrue(m + " tells what it throws",
                        thrown.equals(m.getName().equals("now") ? List.of(IllegalArgumentException.class) : List.of()));
            } else {
                CHECK.isTrue(m + " is private", Modifier.isPrivate(m.getModifiers()));
                CHECK.isTrue(m + " bears no public name", !isFaceName(m.getName()));
            }
        }
        Collections.sort(want);
        Collections.sort(got);
        CHECK.isTrue("the face is " + got, want.equals(got));
        for (Field f : SandFlags.class.getDeclaredFields()) {
            CHECK.isTrue(f + " is private", Modifier.isPrivate(f.getModifiers()));
        }
        Constructor<?>[] constructors = SandFlags.class.getDeclaredConstructors();
        CHECK.due("constructors", constructors.length, 1);
        CHECK.isTrue("the constructor is public", Modifier.isPublic(constructors[0].getModifiers()));
        CHECK.due("the constructor's parameters", constructors[0].getParameterCount(), 0);
        CHECK.isTrue("the class is public and final", Modifier.isPublic(SandFlags.class.getModifiers())
                && Modifier.isFinal(SandFlags.class.getModifiers()));
    }

    private static boolean isFaceName(String name) {
        for (String call : FACE) {
            if (call.contains(" " + name + "(")) {
                return true;
            }
        }
        return false;
    }

    private static void nested() {
        Class<?>[] classes = SandFlags.class.getDeclaredClasses();
        CHECK.isTrue("some twelve classes at most", classes.length < 12);
        for (Class<?> c : classes) {
            CHECK.isTrue(c + " is static", Modifier.isStatic(c.getModifiers()));
            CHECK.isTrue(c + " is private", Modifier.isPrivate(c.getModifiers()));
            int fields = 0;
            for (Field f : c.getDeclaredFields()) {
                boolean isStatic = Modifier.isStatic(f.getModifiers());
                CHECK.isTrue(f + " is final if static", !isStatic || Modifier.isFinal(f.getModifiers()));
                fields += isStatic ? 0 : 1;
            }
            CHECK.isTrue(c + " has some twenty fields at most", fields <= 20);
            for (Method m : c.getDeclaredMethods()) {
                CHECK.isTrue(m + " bears no public name", !isFaceName(m.getName()));
                CHECK.isTrue(m + " takes seven parameters at most", m.getParameterCount() <= 7);
            }
        }
    }

    private static void text() throws IOException {
        String text = Files.readString(Path.of("src/main/java/SandFlags.java"));
        String code = text.replaceAll("(?s)/\\*.*?\\*/", "").replaceAll("//[^\n]*", "");
        for (String pattern : FORBIDDEN) {
            CHECK.isTrue("no " + pattern, !Pattern.compile(pattern).matcher(code).find());
        }
        CHECK.due("throws in the text", code.split("\\bthrow\\b", -1).length - 1, 1);
    }
}
