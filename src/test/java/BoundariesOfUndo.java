import java.util.ArrayList;
import java.util.List;

/** The boundary cases of promises 50 to 52, and of the Terms' undo and exceptions of Java. */
final class BoundariesOfUndo {
    private interface Change {
        void make(MoonlitDoors x);
    }

    private static final Change[] MODIFICATIONS = {
        x -> x.addDoor(1, 2, 3, 4), x -> x.setRule(1, 8, 9, 10, 7), x -> x.addPerson(), x -> x.giveKey(0, 5), x -> x.takeKey(0, 0),
        x -> x.addException(0, 3, false), x -> x.liftException(1, 3), x -> x.tryDoor(0, 0), x -> x.tryDoor(1, 0), x -> x.setCycle(31),
        x -> x.advance(1), x -> x.advance(240), x -> Checks.execute(x, "give 07;wait 200;try 00")
    };

    private static final Change[] OTHERS = {
        MoonlitDoors::doorCount, x -> x.phasesOf(0), x -> x.keyOf(0), x -> x.isHourOf(0, 0), x -> x.hourCount(0),
        MoonlitDoors::exceptionCount, x -> x.hasException(0, 0), x -> x.exceptionDoor(0), x -> x.exceptionDay(0), x -> x.wouldEnter(0, 0),
        MoonlitDoors::personCount, x -> x.hasKey(0, 0), x -> x.keyAt(0, 0), x -> x.doorsOfRing(0), x -> x.personByEntries(0),
        x -> x.entriesOf(0), MoonlitDoors::day, MoonlitDoors::hour, x -> x.phaseOn(0), x -> x.daysUntilPhase(0), x -> x.isUnlocked(0),
        x -> x.hoursUntilUnlocked(0), x -> x.hoursUntilUnlockedByDays(0), x -> x.unlockedHours(0, 1), x -> x.openDoorsFor(0),
        x -> x.entriesOn(0, 0), x -> x.refusalsOn(0, 0), x -> x.loggedPerson(0), x -> x.loggedDoor(0), x -> x.loggedResult(0),
        x -> x.attemptsWith(0), MoonlitDoors::entryShare, x -> x.writeNotice(0), x -> x.noticeAt(0), x -> x.type('a'),
        x -> Checks.outcome(x::execute), MoonlitDoors::errorPosition, x -> Checks.execute(x, "wait 0"), MoonlitDoors::failedCommand,
        MoonlitDoors::save
    };

    private BoundariesOfUndo() {
    }

    static void test() {
        Sentences.test(Document.TERMS, "The successful calls of addDoor, setRule, addPerson, giveKey, takeKey, addException, liftException,"
                + " tryDoor, setCycle, advance and execute are modifications; a refused attempt is successful.",
                BoundariesOfUndo::modifications);
        Sentences.test(Document.TERMS, "The last 8 of them can be undone.", BoundariesOfUndo::lastEight);
        Sentences.test(Document.TERMS, "The buffer, the error position, the failed command and the notice are not affected by undo and"
                + " restore.", BoundariesOfUndo::notAffected);
        Sentences.test(Document.TERMS, "A method that throws an exception changes nothing, except that execute empties the buffer.",
                BoundariesOfUndo::nothingChanged);
        Sentences.test(Document.TERMS, "If several exceptions apply, the one that is documented first is thrown.",
                BoundariesOfUndo::documentedFirst);
        Sentences.test(50, "Undoes the last modification that can be undone.", BoundariesOfUndo::oneByOne);
        Sentences.test(50, "Returns the number of modifications that can still be undone.", BoundariesOfUndo::stillLeft);
        Sentences.test(50, "Throws `IllegalStateException` if there is none", BoundariesOfUndo::none);
        Sentences.test(51, "Saves the state as a snapshot, which replaces an earlier one.", BoundariesOfUndo::replaced);
        Sentences.test(51, "Returns the number of attempts so far.", BoundariesOfUndo::attemptsSaved);
        Sentences.test(52, "Restores the snapshot, which is kept.", BoundariesOfUndo::kept);
        Sentences.test(52, "Afterwards nothing can be undone.", BoundariesOfUndo::nothingLeft);
        Sentences.test(52, "Returns the number of attempts so far.", BoundariesOfUndo::attemptsRestored);
        Sentences.test(52, "Throws `IllegalStateException` if there is no snapshot", () -> {
            MoonlitDoors x = some();
            Boundary.refused("never saved", x, Checks.STATE, x::restore);
            Checks.due("all can still be undone", x.undo(), 7);
            x.save();
            Checks.due("saved", x.restore(), 1);
        });
    }

    /** More than eight modifications, of which the last ones show in what the object answers. */
    private static MoonlitDoors some() {
        MoonlitDoors x = Boundary.world(3, 2);
        x.setRule(1, 7, 3, 4, 5);
        x.addException(1, 3, true);
        x.giveKey(0, 0);
        x.tryDoor(0, 0);
        x.setCycle(28);
        x.advance(30);
        x.tryDoor(1, 2);
        return x;
    }

    private static void modifications() {
        for (int i = 0; i < MODIFICATIONS.length; i++) {
            MoonlitDoors x = some();
            String before = Seen.all(x);
            MODIFICATIONS[i].make(x);
            Checks.due("modification " + i + " shows", Seen.all(x).equals(before), false);
            Checks.due("left behind modification " + i, x.undo(), 7);
            Checks.due("modification " + i + " undone", Seen.all(x), before);
        }
        for (int i = 0; i < OTHERS.length; i++) {
            MoonlitDoors x = some();
            x.writeNotice(0);
            Checks.execute(x, "x");
            Checks.execute(x, "wait 0");
            String before = Seen.state(x);
            OTHERS[i].make(x);
            Checks.due("call " + i + " changes no state", Seen.state(x), before);
            x.undo();
            Checks.due("the attempt before call " + i + " undone", x.attemptsWith(MoonlitDoors.NO_KEY), 0);
            Checks.due("the day before call " + i, x.day(), 1);
        }
        MoonlitDoors x = some();
        x.setCycle(28);
        Checks.due("the same cycle is one", x.undo(), 7);
        Checks.due("the attempt before", x.attemptsWith(MoonlitDoors.NO_KEY), 1);
        Checks.execute(x, "wait 1;wait 1;wait 1;wait 1;wait 1;wait 1;wait 1;wait 1");
        Checks.due("a program of eight commands is one", x.undo(), 7);
        Checks.due("the hour before it", x.hour(), 6);
    }

    private static void lastEight() {
        for (int made = 1; made <= 20; made++) {
            MoonlitDoors x = new MoonlitDoors();
            for (int i = 0; i < made; i++) {
                x.advance(1);
            }
            int can = Math.min(made, 8);
            for (int undone = 1; undone <= can; undone++) {
                Checks.due("left of " + made, x.undo(), can - undone);
                Checks.due("time of " + made, x.day() * 24 + x.hour(), made - undone);
            }
            Boundary.refused("one more of " + made, x, Checks.STATE, x::undo);
        }
    }

    private static void notAffected() {
        MoonlitDoors x = some();
        Checks.execute(x, "wait");
        Checks.execute(x, "wait 1;wait 0");
        x.save();
        x.setRule(0, 0, 0, 0, 0);
        x.writeNotice(0);
        Checks.execute(x, "wai");
        Checks.execute(x, "wait 1;wait 1;wait 0");
        Checks.type(x, "wait");
        for (int i = 0; i < 2; i++) {
            if (i == 0) {
                x.undo();
            } else {
                x.restore();
            }
            Checks.due("phases are affected", x.phasesOf(0), 255);
            Checks.due("the notice", x.noticeAt(3), '-');
            Checks.due("its last character", x.noticeAt(10), '0');
            Checks.due("the error position", x.errorPosition(), 3);
            Checks.due("the failed command", x.failedCommand(), 2);
            Checks.due("the buffer", x.type(' '), 5 + i);
        }
        Checks.due("the buffer's program", Checks.execute(x, "1"), "java.lang.IllegalArgumentException");
        Checks.due("its error position", x.errorPosition(), 5);
    }

    /** An object where all is full, with texts, a snapshot and eight modifications to undo. */
    private static MoonlitDoors full() {
        MoonlitDoors x = Boundary.world(8, 6);
        Boundary.give(x, 5, 0, 1, 2, 3, 4, 5, 6, 7);
        x.writeNotice(3);
        Checks.execute(x, "wait");
        Checks.execute(x, "wait 1;wait 0");
        x.advance(48);
        x.save();
        for (int day = 2; day < 14; day++) {
            x.addException(day % 8, day, day % 2 == 0);
        }
        x.tryDoor(5, 5);
        Checks.type(x, "wait 5");
        return x;
    }

    private static Checks.Call[] refusedCalls(MoonlitDoors x) {
        return new Checks.Call[] {
            () -> x.addDoor(0, 0, 0, 0), () -> x.addDoor(0, 0, 0, 8), () -> x.setRule(8, 0, 0, 0, 0), () -> x.setRule(0, 0, 0, 24, 0),
            () -> x.addException(8, 20, true), () -> x.addException(0, 1000, true), () -> x.addException(0, 1, true),
            () -> x.addException(0, 20, true), () -> x.addException(2, 2, false), () -> x.liftException(8, 2),
            () -> x.liftException(0, 2), () -> x.setCycle(23), () -> x.phasesOf(8), () -> x.keyOf(8), () -> x.isHourOf(8, 0),
            () -> x.isHourOf(0, 24), () -> x.hourCount(8), () -> x.hasException(8, 2), () -> x.exceptionDoor(12),
            () -> x.exceptionDay(12), x::addPerson, () -> x.giveKey(6, 0), () -> x.giveKey(0, 8), () -> x.giveKey(5, 0),
            () -> x.takeKey(6, 0), () -> x.takeKey(0, 0), () -> x.tryDoor(6, 0), () -> x.tryDoor(0, 8), () -> x.wouldEnter(6, 0),
            () -> x.wouldEnter(0, 8), () -> x.hasKey(6, 0), () -> x.keyAt(6, 0), () -> x.keyAt(0, 0), () -> x.doorsOfRing(6),
            () -> x.personByEntries(6), () -> x.entriesOf(6), () -> x.advance(0), () -> x.advance(241), () -> x.phaseOn(10000),
            () -> x.daysUntilPhase(8), () -> x.isUnlocked(8), () -> x.hoursUntilUnlocked(8), () -> x.hoursUntilUnlockedByDays(8),
            () -> x.unlockedHours(8, 1), () -> x.unlockedHours(0, 100), () -> x.openDoorsFor(6), () -> x.entriesOn(8, 0),
            () -> x.entriesOn(0, 8), () -> x.refusalsOn(8, 0), () -> x.refusalsOn(0, 8), () -> x.loggedPerson(1),
            () -> x.loggedDoor(1), () -> x.loggedResult(1), () -> x.attemptsWith(5), () -> x.writeNotice(8), () -> x.noticeAt(20),
            () -> x.type((char) 127), () -> x.type((char) 31)
        };
    }

    private static void nothingChanged() {
        MoonlitDoors x = full();
        String before = Seen.all(x);
        Checks.Call[] calls = refusedCalls(x);
        for (int i = 0; i < calls.length; i++) {
            Checks.due("call " + i + " throws", Checks.outcome(calls[i]).toString().startsWith("java."), true);
            Checks.due("call " + i + " changes nothing", Seen.all(x), before);
        }
        Checks.due("the buffer", x.type('0'), 7);
        sameHistory(x, full());
        Checks.due("the buffer's program", Checks.outcome(x::execute), 1);
        Checks.due("its time", x.day() * 24 + x.hour(), 98);
        emptied(";wait 0", "java.lang.IllegalStateException");
        emptied(";wait 1;give 00;give 00", "java.lang.IllegalStateException");
        emptied(";wait 0;wait", "java.lang.IllegalArgumentException");
        emptied(" ".repeat(54), "java.lang.IllegalArgumentException");
    }

    private static void emptied(String more, String due) {
        MoonlitDoors x = full();
        Checks.due("the program with <" + more + ">", Checks.execute(x, more), due);
        Checks.due("the emptied buffer", x.type('x'), 1);
        Checks.due("the state is left", Seen.state(x), Seen.state(full()));
        Checks.due("the notice is left", x.noticeAt(1), '3');
        sameHistory(x, full());
    }

    /** Undoes all that can be undone of both, and then restores both. */
    private static void sameHistory(MoonlitDoors x, MoonlitDoors due) {
        for (int left = 7; left >= 0; left--) {
            Checks.due("left", x.undo(), left);
            due.undo();
            Checks.due("undone to " + left, Seen.state(x), Seen.state(due));
        }
        Checks.fails("no more", Checks.STATE, x::undo);
        Checks.due("attempts in the snapshot", x.restore(), due.restore());
        Checks.due("the snapshot", Seen.state(x), Seen.state(due));
    }

    private static void documentedFirst() {
        MoonlitDoors x = full();
        Checks.fails("addDoor: range, full", Checks.ARGUMENT, () -> x.addDoor(256, 0, 0, 0));
        Checks.fails("setRule: door, range", Checks.INDEX, () -> x.setRule(8, 256, 24, 24, 8));
        Checks.fails("addException: door, range, past, full", Checks.INDEX, () -> x.addException(8, -1, true));
        Checks.fails("addException: door, past, full", Checks.INDEX, () -> x.addException(8, 1, true));
        Checks.fails("addException: door, full", Checks.INDEX, () -> x.addException(-1, 20, true));
        Checks.fails("addException: range, past, full", Checks.ARGUMENT, () -> x.addException(0, -1, true));
        Checks.fails("addException: range, full", Checks.ARGUMENT, () -> x.addException(0, 1000, true));
        Checks.fails("addException: past, full", Checks.UNSUPPORTED, () -> x.addException(0, 1, true));
        Checks.fails("liftException: door, none", Checks.INDEX, () -> x.liftException(8, 2));
        Checks.fails("isHourOf: door, range", Checks.INDEX, () -> x.isHourOf(8, 24));
        Checks.fails("giveKey: person, range", Checks.INDEX, () -> x.giveKey(6, 8));
        Checks.fails("giveKey: range, a full ring", Checks.ARGUMENT, () -> x.giveKey(5, 8));
        Checks.fails("takeKey: person, none", Checks.INDEX, () -> x.takeKey(6, 8));
        Checks.fails("keyAt: person, position", Checks.INDEX, () -> x.keyAt(6, -1));
        Checks.fails("hoursUntilUnlocked: door, never", Checks.INDEX, () -> new MoonlitDoors().hoursUntilUnlocked(0));
        Checks.fails("hoursUntilUnlockedByDays: door, never", Checks.INDEX, () -> new MoonlitDoors().hoursUntilUnlockedByDays(0));
        Checks.fails("unlockedHours: door, range", Checks.INDEX, () -> x.unlockedHours(8, 0));
        Checks.fails("entriesOn: door, range", Checks.INDEX, () -> x.entriesOn(8, 8));
        Checks.fails("refusalsOn: door, range", Checks.INDEX, () -> x.refusalsOn(8, 8));
        Checks.type(x, " ".repeat(54));
        Checks.fails("type: range, full", Checks.ARGUMENT, () -> x.type((char) 127));
        Checks.outcome(x::execute);
        Checks.due("execute: malformed, failing", Checks.execute(x, "wait 0;wait"), "java.lang.IllegalArgumentException");
        MoonlitDoors past = Boundary.world(1, 0);
        past.addException(0, 0, true);
        past.advance(24);
        Checks.fails("addException: past, there already", Checks.UNSUPPORTED, () -> past.addException(0, 0, true));
    }

    private static void oneByOne() {
        MoonlitDoors x = some();
        List<String> states = new ArrayList<>();
        for (int i = 0; i < 8; i++) {
            states.add(Seen.state(x));
            MODIFICATIONS[i].make(x);
        }
        for (int i = 7; i >= 0; i--) {
            Checks.due("left", x.undo(), i);
            Checks.due("undone to " + i, Seen.state(x), states.get(i));
        }
        for (int i = 8; i < MODIFICATIONS.length; i++) {
            MODIFICATIONS[i].make(x);
        }
        Checks.due("left of those made behind undo", x.undo(), MODIFICATIONS.length - 9);
        fullLogUndone();
    }

    /** Seven more attempts drop seven from the log, and undo brings them back. */
    private static void fullLogUndone() {
        MoonlitDoors x = Boundary.world(8, 6);
        x.giveKey(3, 3);
        for (int i = 0; i < 15; i++) {
            x.tryDoor(i % 6, i % 8);
        }
        String before = Seen.state(x);
        x.giveKey(5, 7);
        for (int i = 0; i < 7; i++) {
            x.tryDoor(5, 7);
        }
        Checks.due("the log shows them", x.loggedDoor(6) * 10 + x.loggedResult(6), 70);
        for (int left = 7; left >= 0; left--) {
            Checks.due("left", x.undo(), left);
        }
        Checks.due("the log as it was", Seen.state(x), before);
    }

    private static void stillLeft() {
        MoonlitDoors x = new MoonlitDoors();
        for (int i = 0; i < 9; i++) {
            x.advance(1);
        }
        Checks.due("of more than eight", x.undo(), 7);
        Checks.due("once more", x.undo(), 6);
        x.advance(1);
        Checks.due("behind another one", x.undo(), 6);
        for (int i = 0; i < 3; i++) {
            x.addPerson();
        }
        Checks.due("full again", x.undo(), 7);
        Checks.due("persons", x.personCount(), 2);
        for (int left = 6; left >= 0; left--) {
            Checks.due("left", x.undo(), left);
        }
        Checks.due("the time", x.hour(), 2);
    }

    private static void none() {
        MoonlitDoors x = new MoonlitDoors();
        Boundary.refused("at first", x, Checks.STATE, x::undo);
        x.save();
        x.type('a');
        Checks.outcome(x::execute);
        Checks.outcome(() -> x.advance(0));
        Boundary.refused("behind calls that are no modifications", x, Checks.STATE, x::undo);
        x.advance(1);
        Checks.due("the only one", x.undo(), 0);
        Boundary.refused("undone twice", x, Checks.STATE, x::undo);
        x.advance(1);
        x.restore();
        Boundary.refused("behind restore", x, Checks.STATE, x::undo);
    }

    private static void replaced() {
        MoonlitDoors x = some();
        x.save();
        x.advance(1);
        String second = Seen.state(x);
        x.save();
        x.advance(1);
        x.restore();
        Checks.due("the later snapshot", Seen.state(x), second);
        x.restore();
        Checks.due("the later snapshot again", Seen.state(x), second);
    }

    private static void attemptsSaved() {
        MoonlitDoors x = Boundary.world(1, 2);
        Checks.due("none", x.save(), 0);
        x.giveKey(0, 0);
        for (int made = 1; made <= 12; made++) {
            x.tryDoor(made % 2, 0);
            Checks.due("entries and refusals", x.save(), made);
        }
        x.wouldEnter(0, 0);
        Boundary.passTo(x, 20, 0);
        Checks.due("however long ago", x.save(), 12);
        x.tryDoor(0, 0);
        x.undo();
        Checks.due("not the one undone", x.save(), 12);
    }

    private static void attemptsRestored() {
        MoonlitDoors x = Boundary.world(1, 1);
        x.save();
        x.tryDoor(0, 0);
        Checks.due("none", x.restore(), 0);
        for (int i = 0; i < 11; i++) {
            x.tryDoor(0, 0);
        }
        x.save();
        x.tryDoor(0, 0);
        Checks.due("those of the snapshot", x.restore(), 11);
        Checks.due("those of the snapshot again", x.restore(), 11);
        Checks.due("as save answers", x.save(), 11);
    }

    private static void kept() {
        MoonlitDoors x = some();
        String saved = Seen.state(x);
        x.save();
        for (int i = 0; i < MODIFICATIONS.length; i++) {
            MODIFICATIONS[i].make(x);
            x.restore();
            Checks.due("restored behind modification " + i, Seen.state(x), saved);
        }
        for (Change change : MODIFICATIONS) {
            change.make(x);
        }
        for (int i = 0; i < 8; i++) {
            x.undo();
        }
        x.restore();
        Checks.due("not changed by undo", Seen.state(x), saved);
    }

    private static void nothingLeft() {
        MoonlitDoors x = some();
        x.save();
        x.advance(1);
        x.restore();
        Boundary.refused("behind restore", x, Checks.STATE, x::undo);
        x.advance(1);
        Checks.due("one made behind restore", x.undo(), 0);
        Boundary.refused("no more than that", x, Checks.STATE, x::undo);
    }
}
