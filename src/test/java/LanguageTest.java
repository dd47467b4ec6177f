import com.sun.source.tree.Tree;
import java.io.IOException;
import java.nio.charset.StandardCharsets;
import java.nio.file.Files;
import java.nio.file.Path;
import java.util.List;
import java.util.Map;
import java.util.Set;

/** LANGUAGE.md: what a look at the source can tell of its rules; .ci/run starts each test in the project's folder. */
public final class LanguageTest {
    private static final String PATH = "src/main/java/MoonlitDoors.java";

    /** What rules 2, 6 and 10 forbid, and what they allow with conditions that the class need not look at. */
    private static final Set<Tree.Kind> FORBIDDEN = Set.of(Tree.Kind.LAMBDA_EXPRESSION, Tree.Kind.MEMBER_REFERENCE, Tree.Kind.TRY,
            Tree.Kind.CATCH, Tree.Kind.SYNCHRONIZED, Tree.Kind.ASSERT, Tree.Kind.INSTANCE_OF, Tree.Kind.SWITCH_EXPRESSION,
            Tree.Kind.ANNOTATION, Tree.Kind.PACKAGE, Tree.Kind.RECORD, Tree.Kind.PARAMETERIZED_TYPE);

    /** Of rule 4's library and rule 6's exceptions, what the class may need; the last line is the compiler's own. */
    private static final String LIBRARY = "java\\.lang\\.StringBuilder\\.(StringBuilder\\(\\)|append\\((char|int|java\\.lang\\.String)\\)"
            + "|charAt\\(int\\)|length\\(\\)|setLength\\(int\\))"
            + "|java\\.lang\\.String\\.(charAt\\(int\\)|length\\(\\))"
            + "|java\\.lang\\.(Integer|Math)\\.\\w+(?<!Exact)\\(int(,int)?\\)"
            + "|java\\.lang\\.(IllegalState|IllegalArgument|IndexOutOfBounds|Arithmetic|UnsupportedOperation)Exception\\.\\w+\\(java\\.lang\\.String\\)"
            + "|java\\.util\\.NoSuchElementException\\.\\w+\\(java\\.lang\\.String\\)"
            + "|java\\.lang\\.Object\\.Object\\(\\)|java\\.lang\\.Enum\\.Enum\\(java\\.lang\\.String,int\\)";

    /** Where rule 7's looks at an index and at a divisor were read by a person. */
    private static final Set<String> INDEXING = Set.of("MoonlitDoors.Rows.at(int[],int)", "MoonlitDoors.Rows.put(int[],int,int)",
            "MoonlitDoors.Rows.copy(int[],int[])", "MoonlitDoors.History.History()", "MoonlitDoors.History.rowAt(int)");
    private static final Set<String> DIVIDING = Set.of("MoonlitDoors.entryShare()", "MoonlitDoors.State.phaseFor(int)");

    public static void main(String[] args) throws IOException {
        lines();
        Source source = Source.read(PATH);
        kinds(source);
        library(source);
        sizes(source);
        Checks.due("7 where rows are indexed", source.indexing, INDEXING);
        Checks.due("7 where is divided", source.dividing, DIVIDING);
        Checks.finish();
    }

    private static void lines() throws IOException {
        List<String> lines = Files.readAllLines(Path.of(PATH), StandardCharsets.US_ASCII);
        Checks.due("the first line", lines.get(0), "import java.util.NoSuchElementException;");
        for (int i = 1; i < lines.size(); i++) {
            Checks.due("line " + (i + 1) + " imports", lines.get(i).startsWith("import "), false);
        }
    }

    private static void kinds(Source source) {
        for (Tree.Kind kind : FORBIDDEN) {
            Checks.due("the source holds " + kind, source.kinds.contains(kind), false);
        }
        Checks.due("5 static fields that can change", source.changingStatics, List.of());
        Checks.due("10 texts joined by +", source.joiningTexts, List.of());
    }

    private static void library(Source source) {
        for (Map.Entry<String, String> used : source.library.entrySet()) {
            String name = used.getKey().replace("AbstractStringBuilder", "StringBuilder");
            Checks.due("4 " + name + " in " + used.getValue() + " is allowed", name.matches(LIBRARY), true);
        }
        Checks.due("4 a library that is not allowed", "java.lang.Math.addExact(int,int)".matches(LIBRARY), false);
    }

    private static void sizes(Source source) {
        Checks.due("11 classes", source.fields.size() <= 12, true);
        source.fields.forEach((name, count) -> Checks.due("11 fields of " + name, count <= 20, true));
        source.parameters.forEach((name, count) -> Checks.due("11 parameters of " + name, count <= 7, true));
        source.lines.forEach((name, count) -> Checks.due("11 lines of " + name, count <= 60, true));
        for (String name : source.calls.keySet()) {
            Checks.due("11 calls of " + name + " go deeper than eight", source.goesDeeper(name, 8), false);
        }
    }
}
