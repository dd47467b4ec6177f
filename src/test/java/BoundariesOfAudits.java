/** The boundary cases of promises 37 to 43: the counts of attempts and the log. */
final class BoundariesOfAudits {
    private static final String DAYS_AGO = "- `daysAgo`: how many days ago, 0 for the present day, to 7";
    private static final String WRONG_DAYS = "Throws `IllegalArgumentException` if daysAgo is out of range";
    private static final String RECENCY = "- `recency`: 0 for the latest attempt, 1 for the one before it, and so on";
    private static final String NOT_LOGGED = "Throws `NoSuchElementException` if the log has no such attempt";

    private BoundariesOfAudits() {
    }

    static void test() {
        daily(37, "Returns the number of entries, 0 for days before day 0.", MoonlitDoors.ENTERED);
        daily(38, "Returns the number of refusals, 0 for days before day 0.", MoonlitDoors.NO_KEY);
        logged(39, MoonlitDoors::loggedPerson, 0);
        logged(40, MoonlitDoors::loggedDoor, 1);
        logged(41, MoonlitDoors::loggedResult, 2);
        Sentences.test(42, "Returns the number of attempts so far with a result.", BoundariesOfAudits::soFar);
        Sentences.test(42, "Throws `IllegalArgumentException` if there is no such result", () -> {
            Boundary.refusedOutside(0, 4, Boundary.world(1, 1), Checks.ARGUMENT, MoonlitDoors::attemptsWith);
        });
        Sentences.test(43, "Returns the number of entries divided by the number of attempts, both converted to double.",
                BoundariesOfAudits::shares);
        Sentences.test(43, "Throws `ArithmeticException` if there were no attempts", BoundariesOfAudits::noAttempts);
    }

    private static int on(MoonlitDoors x, int result, int door, int daysAgo) {
        return result == MoonlitDoors.ENTERED ? x.entriesOn(door, daysAgo) : x.refusalsOn(door, daysAgo);
    }

    /** The person 0 enters the door 0, and the person 1 is refused. */
    private static MoonlitDoors one() {
        MoonlitDoors x = Boundary.world(1, 2);
        x.giveKey(0, 0);
        return x;
    }

    private static void daily(int promise, String before, int result) {
        int person = result == MoonlitDoors.ENTERED ? 0 : 1;
        Sentences.test(promise, before, () -> {
            MoonlitDoors x = one();
            x.tryDoor(person, 0);
            for (int day = 0; day < 8; day++) {
                Checks.due("day 0 from day " + day, on(x, result, 0, day), 1);
                for (int ago = day + 1; ago < 8; ago++) {
                    Checks.due("day " + (day - ago), on(x, result, 0, ago), 0);
                }
                x.advance(24);
            }
        });
        Sentences.test(promise, DAYS_AGO, () -> {
            MoonlitDoors x = one();
            for (int day = 0; day < 12; day++) {
                for (int i = 0; i <= day; i++) {
                    x.tryDoor(person, 0);
                }
                x.tryDoor(1 - person, 0);
                Checks.due("present day " + day, on(x, result, 0, 0), day + 1);
                Checks.due("seven days before day " + day, on(x, result, 0, 7), day < 7 ? 0 : day - 6);
                x.advance(24);
            }
        });
        Sentences.test(promise, Boundary.NO_DOOR, () -> Boundary.noSuchDoor((x, door) -> on(x, result, door, 0)));
        Sentences.test(promise, WRONG_DAYS, () -> {
            MoonlitDoors x = one();
            x.tryDoor(person, 0);
            Boundary.passTo(x, 8, 0);
            Boundary.refusedOutside(0, 7, x, Checks.ARGUMENT, (y, daysAgo) -> on(y, result, 0, daysAgo));
        });
    }

    private static void logged(int promise, Boundary.Asked call, int part) {
        Sentences.test(promise, RECENCY, () -> {
            MoonlitDoors x = Boundary.world(2, 2);
            x.giveKey(0, 1);
            int[][] made = {{0, 0, 2}, {1, 1, 2}, {0, 1, 0}};
            for (int[] attempt : made) {
                Checks.due("result", x.tryDoor(attempt[0], attempt[1]), attempt[2]);
            }
            for (int recency = 0; recency < 3; recency++) {
                Checks.due("recency " + recency, call.of(x, recency), made[2 - recency][part]);
            }
            for (int i = 0; i < 9; i++) {
                x.tryDoor(1, 0);
            }
            Checks.due("the first of the latest ten", call.of(x, 9), made[2][part]);
            x.tryDoor(0, 1);
            Checks.due("the next one, when that is dropped", call.of(x, 9), new int[] {1, 0, 2}[part]);
            Checks.due("the latest of them", call.of(x, 0), new int[] {0, 1, 0}[part]);
        });
        Sentences.test(promise, NOT_LOGGED, () -> {
            MoonlitDoors x = one();
            for (int made = 0; made <= 12; made++) {
                Boundary.refusedOutside(0, Math.min(made, 10) - 1, x, Checks.ELEMENT, call);
                x.tryDoor(made % 2, 0);
            }
            MoonlitDoors undone = one();
            undone.tryDoor(0, 0);
            undone.undo();
            Boundary.refused("an attempt that was undone", undone, Checks.ELEMENT, () -> call.of(undone, 0));
        });
    }

    private static void soFar() {
        MoonlitDoors x = one();
        x.setRule(0, 1, 0, 0, 0);
        for (int result = 0; result < 5; result++) {
            Checks.due("none with " + result, x.attemptsWith(result), 0);
        }
        tries(x, 0, MoonlitDoors.ENTERED, 12);
        tries(x, 1, MoonlitDoors.NO_KEY, 11);
        x.advance(1);
        tries(x, 0, MoonlitDoors.WRONG_HOUR, 2);
        x.advance(239);
        tries(x, 0, MoonlitDoors.WRONG_PHASE, 3);
        x.addException(0, 10, false);
        tries(x, 0, MoonlitDoors.SHUT, 1);
        Boundary.passTo(x, 100, 0);
        int[] due = {12, 1, 11, 3, 2};
        for (int result = 0; result < 5; result++) {
            Checks.due("with " + result, x.attemptsWith(result), due[result]);
        }
    }

    private static void tries(MoonlitDoors x, int person, int due, int times) {
        for (int i = 0; i < times; i++) {
            Checks.due("result", x.tryDoor(person, 0), due);
        }
    }

    private static void shares() {
        MoonlitDoors x = one();
        x.tryDoor(0, 0);
        Checks.due("all entered", x.entryShare(), 1.0);
        x.undo();
        x.tryDoor(1, 0);
        Checks.due("none entered", x.entryShare(), 0.0);
        x.tryDoor(0, 0);
        x.tryDoor(1, 0);
        Checks.due("a third", x.entryShare(), 1.0 / 3.0);
        tries(x, 0, MoonlitDoors.ENTERED, 4);
        Checks.due("five of seven", x.entryShare(), 5.0 / 7.0);
    }

    private static void noAttempts() {
        MoonlitDoors x = one();
        Boundary.refused("no attempts yet", x, Checks.ARITHMETIC, x::entryShare);
        x.wouldEnter(0, 0);
        Checks.outcome(() -> x.tryDoor(0, 1));
        Boundary.refused("no attempts, but an answer and a failure", x, Checks.ARITHMETIC, x::entryShare);
        x.tryDoor(1, 0);
        Checks.due("a refusal alone", x.entryShare(), 0.0);
        x.undo();
        Boundary.refused("the attempt was undone", x, Checks.ARITHMETIC, x::entryShare);
    }
}
