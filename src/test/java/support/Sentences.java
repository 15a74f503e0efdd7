import java.io.IOException;
import java.nio.file.Files;
import java.nio.file.Path;
import java.util.HashSet;
import java.util.Set;

/** The document's sentences that name a boundary, each with a test of its own. */
final class Sentences {
    private static final Path DOCUMENT = Path.of("../shared/DOC.md");

    final Check check;
    private final String document;
    private final Set<String> tested = new HashSet<>();

    Sentences(String test) {
        check = new Check(test);
        try {
            document = folded(Files.readString(DOCUMENT));
        } catch (IOException e) {
            throw new IllegalStateException("no document at " + DOCUMENT, e);
        }
    }

    private static String folded(String text) {
        return text.replaceAll("\\s+", " ");
    }

    /** A sentence is told in the document's own words, so that a test of what it does not say is found out. */
    void says(String words, Runnable test) {
        check.within("");
        check.isTrue("the document says so, and it is tested once: " + words,
            document.contains(folded(words)) && tested.add(words));
        check.within("«" + words + "» ");
        int before = check.asked();
        test.run();
        check.isTrue("something was asked", check.asked() > before);
    }

    Village village(String deeds, int... undoings) {
        return new Village(check, deeds, undoings);
    }

    void end() {
        System.out.println(tested.size() + " sentences");
        check.end();
    }
}
