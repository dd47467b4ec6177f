/** Each sentence of the document that names a boundary case, with a test of its own. */
public final class BoundariesTest {
    public static void main(String[] args) {
        BoundariesOfTerms.test();
        BoundariesOfDoors.test();
        BoundariesOfPersons.test();
        BoundariesOfTime.test();
        BoundariesOfAudits.test();
        BoundariesOfCommands.test();
        BoundariesOfUndo.test();
        Sentences.requireAll();
        Checks.finish();
    }
}
