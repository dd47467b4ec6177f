/** The boundary cases of promises 16 to 26: persons, their rings and their attempts. */
final class BoundariesOfPersons {
    private static final int MIN = Boundary.MIN, MAX = Boundary.MAX;
    private static final String NO_PERSON_OR_DOOR = "Throws `IndexOutOfBoundsException` if there is no such person or door";

    private BoundariesOfPersons() {
    }

    static void test() {
        addPerson();
        giveKey();
        takeKey();
        attempts();
        hasKey();
        keyAt();
        doorsOfRing();
        entries();
    }

    private static void addPerson() {
        Sentences.test(16, "Adds a person with an empty ring.", () -> {
            MoonlitDoors x = Boundary.world(1, 1);
            Boundary.give(x, 0, 0, 1, 2, 3, 4, 5, 6, 7);
            Checks.due("another person", x.addPerson(), 1);
            for (int key = 0; key < 8; key++) {
                Checks.due("key " + key, x.hasKey(1, key), false);
            }
            x.undo();
            x.undo();
            x.addPerson();
            x.undo();
            x.undo();
            Checks.due("a person added anew", x.addPerson(), 1);
            Checks.fails("the ring of the person added anew", Checks.ELEMENT, () -> x.keyAt(1, 0));
        });
        Sentences.test(16, "Throws `IllegalStateException` if there are 6 persons", () -> {
            MoonlitDoors x = Boundary.world(0, 5);
            Checks.due("a sixth person", x.addPerson(), 5);
            Boundary.refused("a seventh person", x, Checks.STATE, x::addPerson);
        });
        Sentences.test(21, "Returns the number of persons.", () -> {
            MoonlitDoors x = new MoonlitDoors();
            for (int persons = 0; persons < 6; persons++) {
                Checks.due("persons", x.personCount(), persons);
                x.addPerson();
            }
            Checks.due("full", x.personCount(), 6);
        });
    }

    private static void giveKey() {
        Sentences.test(17, "- `key`: the key, 0 to 7", () -> {
            MoonlitDoors x = Boundary.world(0, 1);
            int[] keys = {7, 0, 6, 1, 2, 5, 4, 3};
            for (int i = 0; i < 8; i++) {
                Checks.due("keys afterwards", x.giveKey(0, keys[i]), i + 1);
                Checks.due("held", x.hasKey(0, keys[i]), true);
            }
        });
        Sentences.test(17, Boundary.NO_PERSON, () -> Boundary.noSuchPerson((x, person) -> x.giveKey(person, 0)));
        Sentences.test(17, "Throws `IllegalArgumentException` if the key is out of range", () -> {
            MoonlitDoors x = Boundary.world(0, 1);
            x.giveKey(0, 0);
            Boundary.refusedOutside(0, 7, x, Checks.ARGUMENT, (y, key) -> y.giveKey(0, key));
            Boundary.refused("32 keys further", x, Checks.ARGUMENT, () -> x.giveKey(0, 33));
        });
        Sentences.test(17, "Throws `IllegalStateException` if the ring contains the key", () -> {
            MoonlitDoors x = Boundary.world(0, 2);
            for (int key = 0; key < 8; key++) {
                int one = key;
                x.giveKey(0, one);
                Boundary.refused("key " + key + " again", x, Checks.STATE, () -> x.giveKey(0, one));
                Checks.due("the key on another ring", x.giveKey(1, one), key + 1);
            }
        });
    }

    private static void takeKey() {
        Sentences.test(18, "- `key`: the key, any integer", () -> {
            MoonlitDoors x = Boundary.world(0, 1);
            Boundary.give(x, 0, 0, 1, 2, 3, 4, 5, 6, 7);
            for (int key : new int[] {MIN, -32, -1, 8, 32, 39, MAX}) {
                Boundary.refused("key " + key, x, Checks.ELEMENT, () -> x.takeKey(0, key));
            }
            Checks.due("key 0", x.takeKey(0, 0), 7);
            Checks.due("key 7", x.takeKey(0, 7), 6);
        });
        Sentences.test(18, Boundary.NO_PERSON, () -> Boundary.noSuchPerson((x, person) -> x.takeKey(person, 0)));
        Sentences.test(18, "Throws `NoSuchElementException` if the ring does not contain the key", () -> {
            MoonlitDoors x = Boundary.world(0, 2);
            Boundary.give(x, 1, 0, 1, 2, 3, 4, 5, 6, 7);
            for (int key = 0; key < 8; key++) {
                int one = key;
                Boundary.refused("key " + key + " of an empty ring", x, Checks.ELEMENT, () -> x.takeKey(0, one));
                Checks.due("key of a ring", x.takeKey(1, one), 7 - key);
                Boundary.refused("key " + key + " taken before", x, Checks.ELEMENT, () -> x.takeKey(1, one));
            }
        });
    }

    private static void attempts() {
        Sentences.test(19, NO_PERSON_OR_DOOR, () -> {
            Boundary.noSuchDoor((x, door) -> x.tryDoor(0, door));
            Boundary.noSuchPerson((x, person) -> x.tryDoor(person, 0));
            MoonlitDoors x = Boundary.world(1, 1);
            Boundary.refused("neither", x, Checks.INDEX, () -> x.tryDoor(1, 1));
        });
        Sentences.test(20, NO_PERSON_OR_DOOR, () -> {
            Boundary.noSuchDoor((x, door) -> x.wouldEnter(0, door));
            Boundary.noSuchPerson((x, person) -> x.wouldEnter(person, 0));
            MoonlitDoors x = Boundary.world(1, 1);
            Boundary.refused("neither", x, Checks.INDEX, () -> x.wouldEnter(1, 1));
        });
        Sentences.test(20, "Returns what tryDoor would return, without an attempt.", () -> {
            MoonlitDoors x = Boundary.world(2, 1);
            x.giveKey(0, 0);
            String before = Seen.all(x);
            Checks.due("enters", x.wouldEnter(0, 0), MoonlitDoors.ENTERED);
            Checks.due("refused", x.wouldEnter(0, 1), MoonlitDoors.NO_KEY);
            Checks.due("no attempt", Seen.all(x), before);
        });
    }

    private static void hasKey() {
        Sentences.test(22, "- `key`: the key, any integer", () -> {
            MoonlitDoors x = Boundary.world(0, 1);
            Boundary.give(x, 0, 0, 1, 2, 3, 4, 5, 6, 7);
            x.takeKey(0, 5);
            for (int key : new int[] {MIN, -32, -1, 0, 4, 5, 6, 7, 8, 32, 39, MAX}) {
                Checks.due("key " + key, x.hasKey(0, key), key >= 0 && key <= 7 && key != 5);
            }
        });
        Sentences.test(22, Boundary.NO_PERSON, () -> Boundary.noSuchPerson((x, person) -> x.hasKey(person, 0)));
    }

    private static void keyAt() {
        Sentences.test(23, "Returns a key on the ring of a person, in ascending order.", () -> {
            MoonlitDoors x = Boundary.world(0, 1);
            Boundary.give(x, 0, 7, 3, 0);
            Checks.due("first", x.keyAt(0, 0), 0);
            Checks.due("second", x.keyAt(0, 1), 3);
            Checks.due("last", x.keyAt(0, 2), 7);
            x.takeKey(0, 0);
            Checks.due("first of two", x.keyAt(0, 0), 3);
        });
        Sentences.test(23, "- `position`: the position in this order, from 0", () -> {
            MoonlitDoors x = Boundary.world(0, 1);
            Boundary.give(x, 0, 7, 6, 5, 4, 3, 2, 1, 0);
            for (int position = 0; position < 8; position++) {
                Checks.due("position " + position, x.keyAt(0, position), position);
            }
        });
        Sentences.test(23, Boundary.NO_PERSON, () -> Boundary.noSuchPerson((x, person) -> {
            if (x.personCount() > person && person >= 0) {
                x.giveKey(person, 3);
            }
            return x.keyAt(person, 0);
        }));
        Sentences.test(23, "Throws `NoSuchElementException` if there is no such position", () -> {
            MoonlitDoors x = Boundary.world(0, 2);
            for (int count = 0; count <= 8; count++) {
                Boundary.refusedOutside(0, count - 1, x, Checks.ELEMENT, (y, position) -> y.keyAt(1, position));
                int key = 7 - count;
                Checks.outcome(() -> x.giveKey(1, key));
            }
            Boundary.refused("an empty ring besides", x, Checks.ELEMENT, () -> x.keyAt(0, 0));
        });
    }

    private static void doorsOfRing() {
        Sentences.test(24, "Returns the number of doors whose keys are on the ring of a person.", () -> {
            MoonlitDoors x = Boundary.world(8, 2);
            for (int key = 0; key < 8; key++) {
                Checks.due("doors of " + key + " keys", x.doorsOfRing(1), key);
                x.giveKey(1, key);
            }
            Checks.due("all doors", x.doorsOfRing(1), 8);
            Checks.due("an empty ring", x.doorsOfRing(0), 0);
            MoonlitDoors none = Boundary.world(0, 1);
            none.giveKey(0, 0);
            Checks.due("no doors", none.doorsOfRing(0), 0);
        });
        Sentences.test(24, Boundary.NO_PERSON, () -> Boundary.noSuchPerson(MoonlitDoors::doorsOfRing));
    }

    private static void entries() {
        Sentences.test(25, "Returns a person in the order of entries so far, the most first, and the lowest number first if they are"
                + " equal.", () -> {
            MoonlitDoors x = Boundary.world(1, 6);
            ranks(x, 0, 1, 2, 3, 4, 5);
            x.tryDoor(0, 0);
            ranks(x, 0, 1, 2, 3, 4, 5);
            enter(x, 5, 1);
            ranks(x, 5, 0, 1, 2, 3, 4);
            enter(x, 2, 1);
            ranks(x, 2, 5, 0, 1, 3, 4);
            enter(x, 4, 3);
            enter(x, 5, 2);
            ranks(x, 4, 5, 2, 0, 1, 3);
            x.undo();
            ranks(x, 4, 5, 2, 0, 1, 3);
            x.undo();
            ranks(x, 4, 2, 5, 0, 1, 3);
        });
        Sentences.test(25, "- `rank`: the rank, from 0", () -> {
            MoonlitDoors x = Boundary.world(1, 1);
            Checks.due("the one person", x.personByEntries(0), 0);
            x.addPerson();
            enter(x, 1, 1);
            Checks.due("the first rank", x.personByEntries(0), 1);
            Checks.due("the last rank", x.personByEntries(1), 0);
        });
        Sentences.test(25, "Throws `IndexOutOfBoundsException` if there is no such rank",
                () -> Boundary.noSuchPerson(MoonlitDoors::personByEntries));
        Sentences.test(26, "Returns the number of entries of a person so far.", () -> {
            MoonlitDoors x = Boundary.world(1, 6);
            Checks.due("none yet", x.entriesOf(5), 0);
            x.tryDoor(5, 0);
            Checks.due("a refusal is no entry", x.entriesOf(5), 0);
            enter(x, 5, 12);
            Boundary.passTo(x, 1000, 0);
            Checks.due("however long ago", x.entriesOf(5), 12);
            Checks.due("another person", x.entriesOf(4), 0);
        });
        Sentences.test(26, Boundary.NO_PERSON, () -> Boundary.noSuchPerson(MoonlitDoors::entriesOf));
    }

    private static void enter(MoonlitDoors x, int person, int times) {
        if (!x.hasKey(person, 0)) {
            x.giveKey(person, 0);
        }
        for (int i = 0; i < times; i++) {
            Checks.due("enters", x.tryDoor(person, 0), MoonlitDoors.ENTERED);
        }
    }

    private static void ranks(MoonlitDoors x, int... due) {
        for (int rank = 0; rank < due.length; rank++) {
            Checks.due("rank " + rank, x.personByEntries(rank), due[rank]);
        }
    }
}
