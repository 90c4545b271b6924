import java.io.IOException;
import java.nio.file.Files;
import java.nio.file.Path;
import java.util.List;

/** Some rules of LANGUAGE.md that a text can be searched for; the rest of them is for the reader. */
public final class LanguageTest {
    private static final String[] RULED_OUT = {
        "import ", "package ", "try ", "catch ", "finally", "synchronized", "assert ", "instanceof", "->", "::",
        "Exact(", "Double.", "Float.", "System.out", "getMessage", "hashCode", "toString", "static {", "protected ",
        "\t"};
    private static final int LONGEST_METHOD = 60;

    private static boolean isComment(String line) {
        String text = line.trim();
        return text.startsWith("*") || text.startsWith("/");
    }

    public static void main(String[] args) throws IOException {
        List<String> lines = Files.readAllLines(Path.of("src/main/java/SlateRoof.java"));
        int start = 0;
        for (int number = 0; number < lines.size(); number++) {
            String line = lines.get(number);
            for (String word : RULED_OUT) {
                if (!isComment(line)) {
                    Check.same("line " + (number + 1) + " holds " + word, line.contains(word), false);
                }
            }
            for (char sign : line.toCharArray()) {
                Check.same("line " + (number + 1) + " is plain", sign >= 32 && sign < 127, true);
            }
            if (line.isEmpty()) {
                start = number;
            }
            Check.same("lines without a gap up to " + (number + 1), number - start <= LONGEST_METHOD, true);
        }
        Check.end("LanguageTest");
    }
}
