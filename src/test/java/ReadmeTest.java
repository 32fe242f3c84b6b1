import java.io.ByteArrayOutputStream;
import java.io.PrintStream;
import java.nio.charset.StandardCharsets;
import java.nio.file.Files;
import java.nio.file.Path;
import java.util.regex.Matcher;
import java.util.regex.Pattern;

/** README.md shows Example as it stands and what it prints, and names every test that there is. */
public final class ReadmeTest {
    private static final Path TESTS = Path.of("src/test/java");
    private static final Pattern CALL = Pattern.compile("^public \\w+ (\\w+)\\(.*\\)", Pattern.MULTILINE);

    public static void main(String[] args) throws Exception {
        Due due = new Due("ReadmeTest");
        String readme = Files.readString(Path.of("README.md"));
        String example = Files.readString(TESTS.resolve("Example.java"));
        due.is("shows Example", readme.contains("```java\n" + example + "```\n"), true);
        due.is("shows what Example prints:\n" + printed(), readme.contains("```text\n" + printed() + "```\n"), true);
        try (var files = Files.list(TESTS)) {
            for (Path file : (Iterable<Path>) files.sorted()::iterator) {
                String name = file.getFileName().toString().replace(".java", "");
                due.is("names " + name, readme.contains("`" + name + "`"), true);
            }
        }
        String doc = Files.readString(Path.of("../shared/DOC.md"));
        int face = doc.indexOf("## The public face");
        Matcher call = CALL.matcher(doc.substring(face, doc.indexOf("## Terms")).replaceAll("(?m)^ +", ""));
        int calls = 0;
        while (call.find()) {
            calls++;
            due.is("tells of " + call.group(1), readme.contains("`" + call.group(1) + "`"), true);
        }
        due.is("calls of the document's face", calls, 40);
        due.close();
    }

    private static String printed() {
        PrintStream out = System.out;
        ByteArrayOutputStream bytes = new ByteArrayOutputStream();
        System.setOut(new PrintStream(bytes, true, StandardCharsets.UTF_8));
        Example.main(new String[0]);
        System.setOut(out);
        return bytes.toString(StandardCharsets.UTF_8).replace("\r\n", "\n");
    }
}
