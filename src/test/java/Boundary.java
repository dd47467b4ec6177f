/** What the boundary tests share. */
final class Boundary {
    static final int MIN = Integer.MIN_VALUE, MAX = Integer.MAX_VALUE;

    static final String NO_DOOR = "Throws `IndexOutOfBoundsException` if there is no such door";
    static final String NO_PERSON = "Throws `IndexOutOfBoundsException` if there is no such person";

    interface Asked {
        Object of(MoonlitDoors x, int number);
    }

    private Boundary() {
    }

    /** Doors that are always unlocked, the door k with the key k, and persons with empty rings. */
    static MoonlitDoors world(int doors, int persons) {
        MoonlitDoors x = new MoonlitDoors();
        for (int door = 0; door < doors; door++) {
            x.addDoor(255, 0, 23, door);
        }
        for (int person = 0; person < persons; person++) {
            x.addPerson();
        }
        return x;
    }

    static void give(MoonlitDoors x, int person, int... keys) {
        for (int key : keys) {
            x.giveKey(person, key);
        }
    }

    static void pass(MoonlitDoors x, int hours) {
        for (int left = hours; left > 0; left -= 240) {
            x.advance(Math.min(left, 240));
        }
    }

    static void passTo(MoonlitDoors x, int day, int hour) {
        pass(x, day * 24 + hour - x.day() * 24 - x.hour());
    }

    /** A refused call throws exactly this class, and changes nothing. */
    static void refused(String what, MoonlitDoors x, Class<? extends RuntimeException> want, Checks.Call call) {
        String before = Seen.all(x);
        Checks.fails(what, want, call);
        Checks.due(what + " changes nothing", Seen.all(x), before);
    }

    static void refusedOutside(int least, int greatest, MoonlitDoors x, Class<? extends RuntimeException> want, Asked call) {
        for (int number : new int[] {MIN, least - 2, least - 1, greatest + 1, greatest + 2, MAX}) {
            refused("the number " + number, x, want, () -> call.of(x, number));
        }
    }

    static void noSuchDoor(Asked call) {
        for (int count : new int[] {0, 1, 3, 8}) {
            MoonlitDoors x = world(count, 6);
            refusedOutside(0, count - 1, x, Checks.INDEX, call);
            refused("the door 8", x, Checks.INDEX, () -> call.of(x, 8));
            for (int door = 0; door < count; door++) {
                known("the door " + door + " of " + count, world(count, 6), door, call);
            }
        }
        MoonlitDoors undone = world(3, 6);
        undone.addDoor(255, 0, 23, 0);
        undone.undo();
        refused("a door that was undone", undone, Checks.INDEX, () -> call.of(undone, 3));
    }

    static void noSuchPerson(Asked call) {
        for (int count : new int[] {0, 1, 3, 6}) {
            MoonlitDoors x = world(8, count);
            refusedOutside(0, count - 1, x, Checks.INDEX, call);
            refused("the person 6", x, Checks.INDEX, () -> call.of(x, 6));
            for (int person = 0; person < count; person++) {
                known("the person " + person + " of " + count, world(8, count), person, call);
            }
        }
        MoonlitDoors undone = world(8, 3);
        undone.undo();
        refused("a person that was undone", undone, Checks.INDEX, () -> call.of(undone, 2));
    }

    private static void known(String what, MoonlitDoors x, int number, Asked call) {
        Object outcome = Checks.outcome(() -> call.of(x, number));
        Checks.due(what + " exists", outcome.equals(Checks.INDEX.getName()), false);
    }
}
