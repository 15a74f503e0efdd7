import java.io.IOException;
import java.lang.reflect.Method;
import java.lang.reflect.Modifier;
import java.nio.file.DirectoryStream;
import java.nio.file.Files;
import java.nio.file.Path;
import java.util.Set;
import java.util.TreeSet;
import java.util.regex.Matcher;
import java.util.regex.Pattern;

/** README.md's example answers as it says there, and its table and its list of tests leave none out. */
public final class ReadmeTest {
    private static final Check CHECK = new Check("ReadmeTest");
    private static final Path README = Path.of("README.md");
    private static final Path TESTS = Path.of("src/test/java");

    private static final Pattern TEXT = Pattern.compile("\"([^\"]*)\"\\.toCharArray\\(\\)");
    private static final Pattern CALL = Pattern.compile("(?m)^x\\.(\\w+)\\(([^)]*)\\); +// (-?\\d+): ");
    private static final Pattern ROW = Pattern.compile("(?m)^\\| `(\\w+)\\(([^)]*)\\)` \\|");

    private static String[] parts(String list) {
        return list.isEmpty() ? new String[0] : list.split(", ");
    }

    private static long answer(EachUndoes x, String name, String[] given) throws ReflectiveOperationException {
        Class<?>[] types = new Class<?>[given.length];
        Object[] arguments = new Object[given.length];
        for (int i = 0; i < given.length; i++) {
            types[i] = int.class;
            arguments[i] = Integer.valueOf(given[i]);
        }
        return ((Number) EachUndoes.class.getMethod(name, types).invoke(x, arguments)).longValue();
    }

    private static void theExample(String readme) throws ReflectiveOperationException {
        int start = readme.indexOf("```java\n");
        int end = readme.indexOf("```\n", start + 1);
        CHECK.isTrue("there is an example", start >= 0 && end > start);
        String example = readme.substring(start, end);
        EachUndoes x = new EachUndoes();
        Matcher text = TEXT.matcher(example);
        CHECK.isTrue("it types a text", text.find());
        for (char c : text.group(1).toCharArray()) {
            x.type(c);
        }
        Matcher call = CALL.matcher(example);
        int calls = 0;
        while (call.find()) {
            String told = call.group(1) + "(" + call.group(2) + ")";
            CHECK.due(told, answer(x, call.group(1), parts(call.group(2))), Long.parseLong(call.group(3)));
            calls++;
        }
        long lines = example.lines().filter(line -> line.startsWith("x.")).count();
        CHECK.due("calls that tell an answer", calls, lines);
        CHECK.isTrue("it calls something", calls > 0);
    }

    private static void theTable(String readme) {
        Set<String> told = new TreeSet<>();
        Matcher row = ROW.matcher(readme);
        while (row.find()) {
            told.add(row.group(1) + " of " + parts(row.group(2)).length);
        }
        Set<String> due = new TreeSet<>();
        for (Method method : EachUndoes.class.getDeclaredMethods()) {
            if (Modifier.isPublic(method.getModifiers())) {
                due.add(method.getName() + " of " + method.getParameterCount());
            }
        }
        CHECK.isTrue("the table " + told + " has the calls " + due, told.equals(due));
    }

    private static void theTests(String readme) throws IOException {
        try (DirectoryStream<Path> files = Files.newDirectoryStream(TESTS, "*Test.java")) {
            for (Path file : files) {
                String name = file.getFileName().toString().replace(".java", "");
                CHECK.isTrue("README.md tells of " + name, readme.contains("`" + name + "`"));
            }
        }
    }

    public static void main(String[] args) throws Exception {
        String readme = Files.readString(README);
        theExample(readme);
        theTable(readme);
        theTests(readme);
        CHECK.end();
    }
}
