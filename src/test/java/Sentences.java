import java.io.IOException;
import java.nio.file.Files;
import java.nio.file.Path;

/**
 * Binds tests to the sentences of the document. A quote must stand in the part of the document that
 * it is said of, and all words of that part must be quoted: so no sentence is without its test.
 */
final class Sentences {
    private static final Path DOCUMENT = Path.of("../shared/DOC.md");

    private final String test;
    private final String[] parts;
    private String part = "";
    private String left = "";

    Sentences(String test) {
        this.test = test;
        this.parts = read().split("## |======== ");
    }

    private static String read() {
        try {
            return Files.readString(DOCUMENT).replaceAll("```(text|java)?", " ").replaceAll("\\s+", " ");
        } catch (IOException e) {
            Check.holds("the document " + DOCUMENT + " can be read", false);
            return "";
        }
    }

    /** What follows is said of the part that begins so. */
    void in(String beginning) {
        closePart();
        part = beginning;
        left = "";
        for (String p : parts) {
            if (p.startsWith(beginning)) {
                left = wordsOf(p.substring(beginning.length()));
            }
        }
        Check.holds("the document has a part " + beginning, !left.isEmpty());
    }

    /** Without the call's declaration, and without the captions of the interface. */
    private static String wordsOf(String text) {
        String caption = "Ahead of the calls [a-z`, ]+ the interface says: ---- ";
        return text.replaceFirst("^ ?`[^`]*`: ", "")
                .replaceAll(caption + "(building|acting|what is told)\\.", " ")
                .replaceAll(caption + "faults, variables: ", " ");
    }

    void say(String words, Runnable tested) {
        int at = left.indexOf(words);
        Check.holds(part + " has, not quoted yet: " + words, at >= 0);
        if (at >= 0) {
            left = left.substring(0, at) + "|" + left.substring(at + words.length());
        }
        int before = Check.wrongSoFar();
        tested.run();
        if (Check.wrongSoFar() > before) {
            System.out.println("  which breaks, of " + part + " \"" + words + "\"");
        }
    }

    private void closePart() {
        Check.holds("each sentence of " + part + " has a test; without one:" + left,
                !left.matches(".*[A-Za-z0-9].*"));
    }

    void end() {
        closePart();
        Check.end(test);
    }
}
