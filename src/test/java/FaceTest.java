import java.io.IOException;
import java.lang.reflect.Constructor;
import java.lang.reflect.Field;
import java.lang.reflect.Method;
import java.lang.reflect.Modifier;
import java.nio.file.Files;
import java.nio.file.Path;
import java.util.ArrayList;
import java.util.List;
import java.util.Set;
import java.util.TreeSet;
import java.util.regex.Matcher;
import java.util.regex.Pattern;

/** The face as the document tells it, and those rules of LANGUAGE.md that can be seen from outside. */
public final class FaceTest {
    private static final Path DOCUMENT = Path.of("../shared/DOC.md");
    private static final Path SOURCE = Path.of("src/main/java/StableNet.java");
    private static final int PROMISES = 26, MOST_LINES = 60;
    private static final List<String> BARRED = List.of(
            "\\bthrow\\b", "\\btry\\b", "\\bcatch\\b", "\\bsynchronized\\b", "\\bassert\\b", "->", "::",
            "\\bstatic\\s*\\{", "\\bwhile\\s*\\(\\s*true", "\\bThread\\b", "\\bRandom\\b", "Exact\\b",
            "System\\.(?!arraycopy\\b)", "Math\\.(?!min\\b|max\\b)", "Integer\\.(?!bitCount\\b)",
            "Arrays\\.(?!fill\\b)", "import (?!java\\.util\\.Arrays;)", "\\bpackage\\b");

    private final String face;
    private final String behindFace;
    /** The document's calls, in its order, as signature() writes them. */
    private final List<String> calls = new ArrayList<>();
    private final Set<String> names = new TreeSet<>();

    private FaceTest(String document) {
        int begin = document.indexOf("public final class StableNet {");
        int end = document.indexOf("```", Math.max(begin, 0));
        Check.holds("the document has the face", begin >= 0 && end > begin);
        face = begin >= 0 && end > begin ? document.substring(begin, end) : "";
        behindFace = document.substring(Math.max(end, 0));
        Matcher call = Pattern.compile("public (\\w+ (\\w+)\\([^)]*\\));").matcher(face);
        while (call.find()) {
            calls.add(withoutParameterNames(call.group(1)));
            names.add(call.group(2));
        }
    }

    private static String withoutParameterNames(String declared) {
        int at = declared.indexOf('(');
        return declared.substring(0, at) + declared.substring(at).replaceAll("(\\w+) \\w+", "$1");
    }

    public static void main(String[] args) throws Exception {
        FaceTest test = new FaceTest(Files.readString(DOCUMENT));
        test.constants();
        test.members();
        test.eachCallIsAPromise();
        test.nested();
        source();
        Check.end("FaceTest");
    }

    private void constants() throws Exception {
        Set<String> told = new TreeSet<>();
        Matcher constant = Pattern.compile("([A-Z]+) = (-?\\d+)").matcher(face);
        while (constant.find()) {
            told.add(constant.group(1));
            Field f = StableNet.class.getField(constant.group(1));
            Check.holds(f.getName() + " is an int", f.getType() == int.class);
            Check.due(f.getName(), f.getInt(null), Integer.parseInt(constant.group(2)));
        }
        Set<String> found = new TreeSet<>();
        for (Field f : StableNet.class.getDeclaredFields()) {
            if (!Modifier.isPrivate(f.getModifiers())) {
                found.add(f.getName());
            }
            if (Modifier.isStatic(f.getModifiers())) {
                Check.holds(f.getName() + " is final", Modifier.isFinal(f.getModifiers()));
            }
        }
        Check.holds("the constants " + found + " are " + told, found.equals(told));
        Check.holds("four constants", told.equals(Set.of("NONE", "UNKNOWN", "OUTSIDE", "STATE")));
    }

    private void members() {
        Class<?> c = StableNet.class;
        Check.holds("public and final", Modifier.isPublic(c.getModifiers()) && Modifier.isFinal(c.getModifiers()));
        Set<String> found = new TreeSet<>();
        for (Method m : c.getDeclaredMethods()) {
            if (!Modifier.isPrivate(m.getModifiers())) {
                Check.holds(m.getName() + " is public", Modifier.isPublic(m.getModifiers()));
                Check.holds(m.getName() + " is of an object", !Modifier.isStatic(m.getModifiers()));
                found.add(signature(m));
            }
        }
        Check.holds("the methods " + found + " are " + calls, found.equals(new TreeSet<>(calls)));
        Constructor<?>[] constructors = c.getDeclaredConstructors();
        Check.holds("one constructor", constructors.length == 1 && constructors[0].getParameterCount() == 0
                && Modifier.isPublic(constructors[0].getModifiers()));
    }

    private static String signature(Method m) {
        StringBuilder s = new StringBuilder(m.getReturnType().getName()).append(' ').append(m.getName()).append('(');
        for (Class<?> p : m.getParameterTypes()) {
            s.append(s.charAt(s.length() - 1) == '(' ? "" : ", ").append(p.getName());
        }
        return s.append(')').toString();
    }

    /** The tests of sentences go by promises: so a call without one would be without a test. */
    private void eachCallIsAPromise() {
        List<String> promised = new ArrayList<>();
        Matcher promise = Pattern.compile("## Promise (\\d+): .+\\s+`([^`]+)`: ").matcher(behindFace);
        while (promise.find()) {
            promised.add(withoutParameterNames(promise.group(2)));
            Check.due("the number of " + promise.group(2), Integer.parseInt(promise.group(1)), promised.size());
        }
        Check.due("promises", promised.size(), PROMISES);
        List<String> due = new ArrayList<>(calls);
        due.add(0, "StableNet()");
        Check.holds("the promises " + promised + " are of " + due, promised.equals(due));
    }

    private void nested() {
        Class<?>[] inside = StableNet.class.getDeclaredClasses();
        Check.holds("twelve classes at most", inside.length < 12);
        for (Class<?> c : inside) {
            int is = c.getModifiers();
            Check.holds(c + " is static, not public", Modifier.isStatic(is)
                    && !Modifier.isPublic(is) && !Modifier.isProtected(is));
            Check.holds(c + " has twenty fields at most", c.getDeclaredFields().length <= 20);
            for (Method m : c.getDeclaredMethods()) {
                Check.holds(m + " bears a name of its own", !names.contains(m.getName()));
                Check.holds(m + " has seven parameters at most", m.getParameterCount() <= 7);
            }
        }
        for (Method m : StableNet.class.getDeclaredMethods()) {
            if (Modifier.isPrivate(m.getModifiers())) {
                Check.holds(m + " bears a name of its own", !names.contains(m.getName()));
            }
        }
    }

    private static void source() throws IOException {
        String text = Files.readString(SOURCE);
        String code = text.replaceAll("(?s)/\\*.*?\\*/", "").replaceAll("//[^\n]*", "");
        for (String barred : BARRED) {
            Matcher m = Pattern.compile(barred).matcher(code);
            Check.holds("the source is without " + barred, !m.find());
        }
        // A method begins and ends at the same depth of blanks.
        Matcher method = Pattern.compile("(?m)^( {4}| {8})(\\w[^;={}]*\\([^;{}]*\\)) \\{$(?s:(.*?))^\\1\\}$").matcher(code);
        int methods = 0;
        while (method.find()) {
            methods++;
            Check.holds(method.group(2) + " is short", method.group(3).lines().count() < MOST_LINES);
        }
        Check.holds("the methods are found in the source", methods > PROMISES);
    }
}
