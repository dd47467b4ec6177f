/** Promises 50 to 52: undo, save and restore. */
public final class UndoTest {
    public static void main(String[] args) {
        promise50EachModification();
        promise50Last8();
        promise50Only();
        promise50Failures();
        promise50Program();
        promise50Shifted();
        promise51Save();
        promise52Restore();
        promise52AndUndo();
        Checks.finish();
    }

    private static MoonlitDoors some() {
        MoonlitDoors x = new MoonlitDoors();
        x.addDoor(255, 0, 23, 0);
        x.addDoor(7, 3, 4, 5);
        x.addPerson();
        x.giveKey(0, 0);
        x.addException(1, 3, true);
        x.tryDoor(0, 0);
        x.tryDoor(0, 1);
        x.setCycle(28);
        x.advance(30);
        return x;
    }

    private interface Change {
        void make(MoonlitDoors x);
    }

    private static final Change[] CHANGES = {
        x -> x.addDoor(1, 2, 3, 4), x -> x.setRule(1, 8, 9, 10, 7), x -> x.addPerson(), x -> x.giveKey(0, 5),
        x -> x.takeKey(0, 0), x -> x.addException(0, 3, false), x -> x.liftException(1, 3), x -> x.tryDoor(0, 0),
        x -> x.tryDoor(0, 1), x -> x.setCycle(31), x -> x.advance(1), x -> x.advance(240),
        x -> Checks.execute(x, "give 07;wait 200;try 00")
    };

    private static void promise50EachModification() {
        for (int i = 0; i < CHANGES.length; i++) {
            MoonlitDoors x = some();
            String before = Seen.state(x);
            CHANGES[i].make(x);
            Checks.due("50 change " + i + " shows", Seen.state(x).equals(before), false);
            Checks.due("50 left after change " + i, x.undo(), 7);
            Checks.due("50 change " + i + " undone", Seen.state(x), before);
        }
    }

    private static void promise50Last8() {
        MoonlitDoors x = new MoonlitDoors();
        Checks.fails("50 none at first", Checks.STATE, x::undo);
        for (int made = 1; made <= 30; made++) {
            x.advance(1);
            x.save();
            int can = Math.min(made, 8);
            for (int left = can - 1; left >= 0; left--) {
                Checks.due("50 left of " + made, x.undo(), left);
                Checks.due("50 time of " + made, x.day() * 24 + x.hour(), made - can + left);
            }
            Checks.fails("50 no more of " + made, Checks.STATE, x::undo);
            for (int again = 0; again < can; again++) {
                x.advance(1);
            }
        }
    }

    private static void promise50Only() {
        MoonlitDoors x = some();
        x.wouldEnter(0, 0);
        x.writeNotice(1);
        x.type('w');
        x.save();
        x.hoursUntilUnlocked(0);
        Checks.due("50 the others are none", x.undo(), 7);
        Checks.due("50 the last one", x.day() * 24 + x.hour(), 0);
        x.setCycle(28);
        Checks.due("50 the same again is one", x.undo(), 7);
        Checks.due("50 a cycle", x.undo(), 6);
        Checks.due("50 a refused attempt", x.undo(), 5);
        Checks.due("50 attempts", x.save(), 1);
    }

    private static void promise50Failures() {
        MoonlitDoors x = some();
        for (int i = 0; i < 7; i++) {
            x.advance(1);
        }
        String before = Seen.state(x);
        Checks.outcome(() -> x.addDoor(-1, 0, 0, 0));
        Checks.outcome(() -> x.setRule(9, 0, 0, 0, 0));
        Checks.outcome(() -> x.addException(0, -1, true));
        Checks.outcome(() -> x.liftException(0, 77));
        Checks.outcome(() -> x.setCycle(2));
        Checks.outcome(() -> x.giveKey(0, 0));
        Checks.outcome(() -> x.takeKey(0, 7));
        Checks.outcome(() -> x.tryDoor(0, 7));
        Checks.outcome(() -> x.advance(0));
        Checks.execute(x, "wait 1;wait 0");
        Checks.execute(x, "wait 1;wait");
        Checks.due("50 failures change nothing", Seen.state(x), before);
        for (int left = 7; left >= 0; left--) {
            Checks.due("50 failures are none", x.undo(), left);
        }
        Checks.due("50 hour", x.day() * 24 + x.hour(), 0);
        Checks.due("50 cycle", x.phaseOn(28), 0);
    }

    private static void promise50Program() {
        MoonlitDoors x = some();
        String before = Seen.state(x);
        Checks.execute(x, "wait 1;wait 1;wait 1;wait 1;wait 1;wait 1;wait 1;wait 1");
        Checks.due("50 a program is one", x.undo(), 7);
        Checks.due("50 a program undone", Seen.state(x), before);
        Checks.fails("50 buffer stays empty", Checks.ARGUMENT, x::execute);
    }

    /** Undo brings back what the modification moved or overwrote, not only what it added. */
    private static void promise50Shifted() {
        MoonlitDoors x = some();
        while (x.personCount() < 6) {
            x.addPerson();
        }
        for (int i = 0; i < 10; i++) {
            x.tryDoor(i % 2, i % 3 == 0 ? 0 : 1);
        }
        x.addException(0, 7, false);
        x.addException(0, 2, true);
        String before = Seen.state(x);
        for (int i = 0; i < 8; i++) {
            x.tryDoor(4 - i % 2, 0);
        }
        for (int i = 0; i < 8; i++) {
            x.undo();
        }
        Checks.due("50 the log as it was", Seen.state(x), before);
        x.liftException(0, 2);
        x.liftException(1, 3);
        x.addException(1, 500, true);
        for (int i = 0; i < 3; i++) {
            x.undo();
        }
        Checks.due("50 the exceptions as they were", Seen.state(x), before);
    }

    private static void promise51Save() {
        MoonlitDoors x = some();
        Checks.due("51 attempts", x.save(), 2);
        x.tryDoor(0, 0);
        Checks.due("51 attempts after", x.save(), 3);
        x.tryDoor(0, 0);
        x.restore();
        Checks.due("51 replaced", x.attemptsWith(0), 2);
        MoonlitDoors fresh = new MoonlitDoors();
        Checks.due("51 none", fresh.save(), 0);
        Checks.due("51 a new object's snapshot", fresh.restore(), 0);
    }

    private static void promise52Restore() {
        MoonlitDoors none = some();
        Checks.fails("52 none", Checks.STATE, none::restore);
        Checks.due("52 a failure leaves undo", none.undo(), 7);
        MoonlitDoors x = some();
        String before = Seen.state(x);
        x.save();
        for (Change change : CHANGES) {
            change.make(x);
            Checks.due("52 attempts", x.restore(), 2);
            Checks.due("52 restored", Seen.state(x), before);
            Checks.fails("52 nothing to undo", Checks.STATE, x::undo);
        }
        for (Change change : CHANGES) {
            Checks.outcome(() -> {
                change.make(x);
                return 0;
            });
        }
        x.restore();
        Checks.due("52 kept", Seen.state(x), before);
    }

    private static void promise52AndUndo() {
        MoonlitDoors x = new MoonlitDoors();
        x.advance(5);
        x.save();
        x.undo();
        Checks.due("52 undo leaves the snapshot", x.restore(), 0);
        Checks.due("52 hour", x.hour(), 5);
        x.advance(2);
        x.advance(3);
        Checks.due("52 undo again", x.undo(), 1);
        Checks.due("52 undone", x.hour(), 7);
        x.writeNotice(x.addDoor(0, 0, 0, 0));
        x.type('a');
        x.restore();
        Checks.due("52 notice", x.noticeAt(0), 'd');
        Checks.due("52 buffer", x.type('b'), 2);
    }
}
