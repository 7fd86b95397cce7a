import java.lang.reflect.Method;
import java.nio.file.Files;
import java.nio.file.Path;
import java.util.regex.Matcher;
import java.util.regex.Pattern;

/** The example of README.md answers as its comments tell: a number that they begin with, and seen(). */
public final class ReadmeTest {
    private static final Pattern CALL = Pattern.compile("x\\.(\\w+)\\(([^)]*)\\);(?: +// (.*))?");
    private static final Pattern ANSWER = Pattern.compile("^(-?\\d+)\\b");
    private static final Pattern SEEN = Pattern.compile("\\bseen\\(\\) is (-?\\d+)\\b");

    private final StableNet net = new StableNet();
    private int told = 0;

    public static void main(String[] args) throws Exception {
        String text = Files.readString(Path.of("README.md"));
        int begin = text.indexOf("```java");
        int end = text.indexOf("```", begin + 1);
        Check.holds("README.md has an example", begin >= 0 && end > begin);
        new ReadmeTest().run(text.substring(Math.max(begin, 0), Math.max(end, 0)));
        Check.end("ReadmeTest");
    }

    private void run(String example) throws Exception {
        Matcher line = CALL.matcher(example);
        while (line.find()) {
            long answer = call(line.group(1), line.group(2).split(", *"));
            String comment = line.group(3) == null ? "" : line.group(3);
            due(line.group(), answer, ANSWER.matcher(comment));
            due(line.group() + ", seen()", net.seen(), SEEN.matcher(comment));
        }
        Check.holds("the example tells answers", told > 0);
    }

    private void due(String call, long got, Matcher want) {
        if (want.find()) {
            told++;
            Check.due(call, got, Long.parseLong(want.group(1)));
        }
    }

    private long call(String name, String[] words) throws Exception {
        for (Method m : StableNet.class.getMethods()) {
            if (m.getName().equals(name) && m.getDeclaringClass() == StableNet.class) {
                Object[] given = new Object[m.getParameterCount()];
                for (int k = 0; k < given.length; k++) {
                    boolean isTruth = m.getParameterTypes()[k] == boolean.class;
                    given[k] = isTruth ? (Object) Boolean.valueOf(words[k]) : Integer.valueOf(words[k]);
                }
                return ((Number) m.invoke(net, given)).longValue();
            }
        }
        Check.holds("there is a call " + name, false);
        return 0;
    }
}
