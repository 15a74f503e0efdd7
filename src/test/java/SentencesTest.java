import java.io.IOException;
import java.nio.file.DirectoryStream;
import java.nio.file.Files;
import java.nio.file.Path;
import java.util.ArrayList;
import java.util.List;
import java.util.regex.Matcher;
import java.util.regex.Pattern;

/** Each promise of the document has words of its own among the sentences that the boundary tests test. */
public final class SentencesTest {
    private static final Check CHECK = new Check("SentencesTest");
    private static final Path TESTS = Path.of("src/test/java");
    private static final Path DOCUMENT = Path.of("../shared/DOC.md");
    private static final int PROMISES = 30;

    private static List<String> tested() throws IOException {
        List<String> tested = new ArrayList<>();
        try (DirectoryStream<Path> files = Files.newDirectoryStream(TESTS, "*BoundaryTest.java")) {
            for (Path file : files) {
                // A string that goes on behind a line's end is one string.
                String source = Files.readString(file).replaceAll("\"\\s*\\+ \"", "");
                Matcher says = Pattern.compile("DOC\\.says\\(\"([^\"]*)\"").matcher(source);
                while (says.find()) {
                    tested.add(says.group(1));
                }
            }
        }
        return tested;
    }

    public static void main(String[] args) throws IOException {
        List<String> tested = tested();
        String[] parts = Files.readString(DOCUMENT).replaceAll("\\s+", " ").split("## ");
        int promises = 0;
        for (String part : parts) {
            if (part.startsWith("Promise ")) {
                promises++;
                String title = part.substring(0, part.indexOf('`'));
                CHECK.isTrue(title + " has a sentence that is tested", tested.stream().anyMatch(part::contains));
            }
        }
        CHECK.due("promises", promises, PROMISES);
        CHECK.end();
    }
}
