import java.util.HashSet;
import java.util.Set;

/** Ties each boundary test to the words of the document that it is for. */
final class Sentences {
    private static final Set<String> TESTED = new HashSet<>();

    private Sentences() {
    }

    static void test(int promise, String words, Runnable body) {
        String sentence = name(promise, words);
        Checks.due(sentence + ": stands in the document", Document.holds(promise, words), true);
        int madeBefore = Checks.made();
        int wrongBefore = Checks.wrong();
        body.run();
        Checks.due(sentence + ": has checks of its own", Checks.made() > madeBefore, true);
        if (Checks.wrong() > wrongBefore) {
            System.out.println("broken: " + sentence);
        }
        TESTED.add(sentence);
    }

    /** Each line of a promise that tells of an exception or a number has to have a test. */
    static void requireAll() {
        for (int promise = 1; promise <= Document.PROMISES; promise++) {
            for (String line : Document.linesOf(promise)) {
                if (namesBoundary(line)) {
                    String sentence = name(promise, line);
                    Checks.due(sentence + ": is tested", TESTED.contains(sentence), true);
                }
            }
        }
    }

    private static boolean namesBoundary(String line) {
        boolean described = line.startsWith("- `") || line.startsWith("Returns ");
        return line.startsWith("Throws ") || described && line.matches(".*(\\d|any integer).*");
    }

    private static String name(int promise, String words) {
        return (promise == Document.TERMS ? "Terms" : "Promise " + promise) + ", \"" + words + "\"";
    }
}
