import java.io.IOException;
import java.nio.charset.StandardCharsets;
import java.nio.file.Files;
import java.nio.file.Path;
import java.util.List;

/** LANGUAGE.md: what a look at the source can tell; .ci/run starts each test in the project's folder. */
public final class LanguageTest {
    private static final String[] FORBIDDEN = {"catch (", "try {", "finally", "->", "::", "synchronized", "assert", "instanceof",
        "getMessage", "static {", "\" +", "+ \"", "Exact(", "System.", "java.util.Random", "@", "double[", "hashCode", "toString"};

    public static void main(String[] args) throws IOException {
        List<String> lines = Files.readAllLines(Path.of("src/main/java/MoonlitDoors.java"), StandardCharsets.US_ASCII);
        Checks.due("the first line", lines.get(0), "import java.util.NoSuchElementException;");
        for (int i = 1; i < lines.size(); i++) {
            String line = lines.get(i);
            Checks.due("line " + (i + 1) + " imports", line.startsWith("import "), false);
            for (String word : FORBIDDEN) {
                Checks.due("line " + (i + 1) + " holds " + word, line.contains(word), false);
            }
        }
        Checks.finish();
    }
}
