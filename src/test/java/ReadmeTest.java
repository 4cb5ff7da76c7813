import java.io.ByteArrayOutputStream;
import java.io.IOException;
import java.io.PrintStream;
import java.nio.charset.StandardCharsets;
import java.nio.file.Files;
import java.nio.file.Path;

/** README.md has the program of Example.java, and what it prints. */
public final class ReadmeTest {
    public static void main(String[] args) throws IOException {
        String readme = Files.readString(Path.of("README.md"));
        String program = Files.readString(Path.of("src/test/java/Example.java"));
        Kit.due("the program in README.md", block(readme, "```java\n"), program);
        Kit.due("what README.md says that it prints", block(readme, "```text\n"), printed());
        Kit.finish();
    }

    private static String block(String readme, String opening) {
        int from = readme.indexOf(opening) + opening.length();
        int to = readme.indexOf("```", from);
        return from < opening.length() || to < 0 ? "" : readme.substring(from, to);
    }

    private static String printed() {
        PrintStream before = System.out;
        ByteArrayOutputStream bytes = new ByteArrayOutputStream();
        System.setOut(new PrintStream(bytes, true, StandardCharsets.ISO_8859_1));
        try {
            Example.main(new String[0]);
        } finally {
            System.setOut(before);
        }
        return bytes.toString(StandardCharsets.ISO_8859_1).replace("\r\n", "\n");
    }
}
