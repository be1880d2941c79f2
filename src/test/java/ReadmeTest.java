import java.io.ByteArrayOutputStream;
import java.io.IOException;
import java.io.PrintStream;
import java.nio.charset.StandardCharsets;
import java.nio.file.Files;
import java.nio.file.Path;

/** README.md: its program is the file ReadmeExample.java and prints what README.md says. */
public final class ReadmeTest {
    public static void main(String[] args) throws IOException {
        String readme = Files.readString(Path.of("README.md"));
        String example = Files.readString(Path.of("src/test/java/ReadmeExample.java"));
        Check.due("README.md's program", block(readme, "java"), example);
        Check.due("README.md's program prints", printed(), block(readme, "text"));
        Check.finish();
    }

    /** The first fenced block of a language; the empty text if there is none. */
    private static String block(String readme, String language) {
        String opening = "```" + language + "\n";
        int from = readme.indexOf(opening);
        int to = readme.indexOf("```\n", from + opening.length());
        return from < 0 || to < 0 ? "" : readme.substring(from + opening.length(), to);
    }

    private static String printed() {
        PrintStream console = System.out;
        ByteArrayOutputStream bytes = new ByteArrayOutputStream();
        System.setOut(new PrintStream(bytes, true, StandardCharsets.UTF_8));
        ReadmeExample.main(new String[0]);
        System.setOut(console);
        return bytes.toString(StandardCharsets.UTF_8).replace(System.lineSeparator(), "\n");
    }
}
