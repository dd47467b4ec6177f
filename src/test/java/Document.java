import java.io.IOException;
import java.io.UncheckedIOException;
import java.nio.charset.StandardCharsets;
import java.nio.file.Files;
import java.nio.file.Path;
import java.util.ArrayList;
import java.util.List;

/** The lines of ../shared/DOC.md by promises; .ci/run starts each test in the project's folder. */
final class Document {
    static final int PROMISES = 52;

    /** Stands for all that belongs to no single promise. */
    static final int TERMS = 0;

    private static final List<List<String>> PARTS = read();

    private Document() {
    }

    static List<String> linesOf(int promise) {
        return PARTS.get(promise);
    }

    static boolean holds(int promise, String words) {
        return linesOf(promise).stream().anyMatch(line -> line.contains(words));
    }

    private static List<List<String>> read() {
        List<List<String>> parts = new ArrayList<>();
        for (int i = 0; i <= PROMISES; i++) {
            parts.add(new ArrayList<>());
        }
        int part = TERMS;
        for (String line : lines()) {
            if (line.startsWith("## Promise ")) {
                part = Integer.parseInt(line.substring("## Promise ".length(), line.indexOf(':')));
            } else if (line.startsWith("## ")) {
                part = TERMS;
            }
            parts.get(part).add(line);
        }
        return parts;
    }

    private static List<String> lines() {
        try {
            return Files.readAllLines(Path.of("../shared/DOC.md"), StandardCharsets.UTF_8);
        } catch (IOException e) {
            throw new UncheckedIOException(e);
        }
    }
}
