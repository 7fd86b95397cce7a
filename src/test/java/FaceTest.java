import java.lang.reflect.Constructor;
import java.lang.reflect.Field;
import java.lang.reflect.Method;
import java.lang.reflect.Modifier;
import java.nio.file.Files;
import java.nio.file.Path;
import java.util.List;
import java.util.Set;
import java.util.TreeSet;
import java.util.regex.Matcher;
import java.util.regex.Pattern;

/** The face of the document, and those rules of LANGUAGE.md that can be seen from outside. */
public final class FaceTest {
    private static final Set<String> FACE = Set.of(
            "int open(int)", "int link(int, int, boolean)", "int build()", "int value(int, int)",
            "int fault(int, int, int)", "int told(int, int)", "int seen()", "int neighbour(int, int)",
            "int child(int, int)", "int enabled(int)", "int rights()", "int holder(int)",
            "int next(int, int)", "int step(int)", "int run(int, int)", "int dice(int)",
            "int settle(int, int)", "int rest()", "int distance(int)", "int wave()",
            "int entries(int)", "int count(int)", "int keep()", "int back()", "long digest()");
    private static final List<String> BARRED = List.of(
            "\\bthrow\\b", "\\btry\\b", "\\bcatch\\b", "\\bsynchronized\\b", "\\bassert\\b", "->", "::",
            "\\bstatic\\s*\\{", "\\bwhile\\s*\\(\\s*true", "\\bThread\\b", "\\bRandom\\b", "Exact\\b",
            "System\\.(?!arraycopy\\b)", "Math\\.(?!min\\b|max\\b)", "Integer\\.(?!bitCount\\b)",
            "Arrays\\.(?!fill\\b)", "import (?!java\\.util\\.Arrays;)", "\\bpackage\\b");

    public static void main(String[] args) throws Exception {
        constants();
        members();
        nested();
        source();
        Check.end("FaceTest");
    }

    private static void constants() {
        Check.due("NONE", StableNet.NONE, -1);
        Check.due("UNKNOWN", StableNet.UNKNOWN, -101);
        Check.due("OUTSIDE", StableNet.OUTSIDE, -102);
        Check.due("STATE", StableNet.STATE, -103);
    }

    private static void members() {
        Class<?> c = StableNet.class;
        Check.holds("public and final", Modifier.isPublic(c.getModifiers()) && Modifier.isFinal(c.getModifiers()));
        Set<String> found = new TreeSet<>();
        for (Method m : c.getDeclaredMethods()) {
            if (!Modifier.isPrivate(m.getModifiers())) {
                Check.holds(m.getName() + " is public", Modifier.isPublic(m.getModifiers()));
                found.add(signature(m));
            }
        }
        Check.holds("the methods " + found, found.equals(FACE));
        Set<String> fields = new TreeSet<>();
        for (Field f : c.getDeclaredFields()) {
            if (!Modifier.isPrivate(f.getModifiers())) {
                fields.add(f.getName());
            }
            if (Modifier.isStatic(f.getModifiers())) {
                Check.holds(f.getName() + " is final", Modifier.isFinal(f.getModifiers()));
            }
        }
        Check.holds("the constants " + fields, fields.equals(Set.of("NONE", "UNKNOWN", "OUTSIDE", "STATE")));
        Constructor<?>[] constructors = c.getDeclaredConstructors();
        Check.holds("one constructor", constructors.length == 1 && constructors[0].getParameterCount() == 0
                && Modifier.isPublic(constructors[0].getModifiers()));
    }

    private static String signature(Method m) {
        StringBuilder s = new StringBuilder(m.getReturnType().getName()).append(' ').append(m.getName()).append('(');
        for (Class<?> p : m.getParameterTypes()) {
            s.append(s.charAt(s.length() - 1) == '(' ? "" : ", ").append(p.getName());
        }
        return s.append(')').toString();
    }

    private static void nested() {
        Set<String> names = new TreeSet<>();
        for (String method : FACE) {
            names.add(method.substring(method.indexOf(' ') + 1, method.indexOf('(')));
        }
        Class<?>[] inside = StableNet.class.getDeclaredClasses();
        Check.holds("twelve classes at most", inside.length < 12);
        for (Class<?> c : inside) {
            int is = c.getModifiers();
            Check.holds(c + " is static, not public", Modifier.isStatic(is)
                    && !Modifier.isPublic(is) && !Modifier.isProtected(is));
            Check.holds(c + " has twenty fields at most", c.getDeclaredFields().length <= 20);
            for (Method m : c.getDeclaredMethods()) {
                Check.holds(m + " bears a name of its own", !names.contains(m.getName()));
                Check.holds(m + " has seven parameters at most", m.getParameterCount() <= 7);
            }
        }
        for (Method m : StableNet.class.getDeclaredMethods()) {
            if (Modifier.isPrivate(m.getModifiers())) {
                Check.holds(m + " bears a name of its own", !names.contains(m.getName()));
            }
        }
    }

    private static void source() throws Exception {
        String text = Files.readString(Path.of("src/main/java/StableNet.java"));
        String code = text.replaceAll("(?s)/\\*.*?\\*/", "").replaceAll("//[^\n]*", "");
        for (String barred : BARRED) {
            Matcher m = Pattern.compile(barred).matcher(code);
            Check.holds("the source is without " + barred, !m.find());
        }
    }
}
