import java.io.File;
import java.io.IOException;
import java.net.URL;
import java.net.URLClassLoader;
import java.nio.charset.StandardCharsets;
import java.nio.file.Files;
import java.nio.file.Path;
import java.util.ArrayList;
import java.util.List;
import javax.tools.ToolProvider;

/**
 * README.md: its examples, made into a program that looks at the answers that stand behind the calls.
 * .ci/run starts each test in the project's folder.
 */
public final class ReadmeTest {
    private static final String COMMENT = "// ", THROWS = "throws ", NAME = "ReadmeExample";

    private static final StringBuilder BODY = new StringBuilder();
    private static int answers = 0;

    public static void main(String[] args) throws Exception {
        boolean inExample = false;
        for (String line : Files.readAllLines(Path.of("README.md"), StandardCharsets.UTF_8)) {
            boolean fence = line.startsWith("```");
            if (inExample && !fence) {
                translate(line);
            }
            inExample = fence ? line.equals("```java") : inExample;
        }
        BODY.append("Checks.due(\"answers in README.md\", Checks.made(), " + answers + ");\nChecks.finish();\n");
        Path folder = Files.createTempDirectory("readme");
        folder.toFile().deleteOnExit();
        Checks.due("javac on README.md's examples", compile(folder), 0);
        if (Checks.wrong() == 0) {
            run(folder);
        }
        Checks.finish();
    }

    private static void translate(String line) {
        int at = line.indexOf(COMMENT);
        if (at < 0) {
            BODY.append(line).append('\n');
            return;
        }
        answers++;
        String statement = line.substring(0, at).strip();
        String due = line.substring(at + COMMENT.length()).split(": ")[0];
        String call = statement.substring(0, statement.length() - 1);
        if (due.startsWith(THROWS)) {
            BODY.append("Checks.fails(\"" + call + "\", " + due.substring(THROWS.length()) + ".class, () -> " + call + ");\n");
            return;
        }
        int assigned = call.indexOf(" = ");
        if (assigned >= 0) {
            BODY.append(statement).append('\n');
            call = call.substring(call.indexOf(' ') + 1, assigned);
        }
        BODY.append("Checks.due(\"" + call.replace("\"", "\\\"") + "\", " + call + ", " + due + ");\n");
    }

    private static int compile(Path folder) throws IOException {
        Path file = folder.resolve(NAME + ".java");
        Files.write(file, List.of("public final class " + NAME + " {", "public static void main(String[] args) {", BODY, "}", "}"));
        file.toFile().deleteOnExit();
        folder.resolve(NAME + ".class").toFile().deleteOnExit();
        return ToolProvider.getSystemJavaCompiler().run(null, null, null, "-cp", System.getProperty("java.class.path"),
                "-d", folder.toString(), file.toString());
    }

    /** The loader has no other one above it that knows the class and its checks, so that they stand in one package. */
    private static void run(Path folder) throws Exception {
        List<URL> places = new ArrayList<>();
        places.add(folder.toUri().toURL());
        for (String place : System.getProperty("java.class.path").split(File.pathSeparator)) {
            places.add(Path.of(place).toUri().toURL());
        }
        URLClassLoader loader = new URLClassLoader(places.toArray(new URL[0]), ClassLoader.getPlatformClassLoader());
        loader.loadClass(NAME).getMethod("main", String[].class).invoke(null, (Object) new String[0]);
    }
}
