/** Promises 16 to 26: persons, their rings and their attempts. */
public final class PersonsTest {
    private static final int MIN = Integer.MIN_VALUE, MAX = Integer.MAX_VALUE;

    public static void main(String[] args) {
        promises16And21AddPerson();
        promise17GiveKey();
        promise18TakeKey();
        promise19Reasons();
        promise19ByException();
        promise20WouldEnter();
        promises19And20Wrong();
        promise22HasKey();
        promise23KeyAt();
        promise24DoorsOfRing();
        promises17To24EveryPerson();
        promises25And26Entries();
        promises25And26EveryPerson();
        Checks.finish();
    }

    private static void promises16And21AddPerson() {
        MoonlitDoors x = new MoonlitDoors();
        for (int person = 0; person < 6; person++) {
            Checks.due("21 count", x.personCount(), person);
            Checks.due("16 number", x.addPerson(), person);
            Checks.due("16 empty ring", x.hasKey(person, 0), false);
        }
        Checks.fails("16 seventh", Checks.STATE, x::addPerson);
        Checks.due("21 six", x.personCount(), 6);
    }

    private static void promise17GiveKey() {
        MoonlitDoors x = new MoonlitDoors();
        x.addPerson();
        x.addPerson();
        Checks.fails("17 person", Checks.INDEX, () -> x.giveKey(2, 8));
        Checks.fails("17 person -1", Checks.INDEX, () -> x.giveKey(-1, 0));
        Checks.fails("17 key -1", Checks.ARGUMENT, () -> x.giveKey(0, -1));
        Checks.fails("17 key 8", Checks.ARGUMENT, () -> x.giveKey(0, 8));
        Checks.fails("17 key 32", Checks.ARGUMENT, () -> x.giveKey(0, 32));
        for (int key = 7; key >= 0; key--) {
            Checks.due("17 keys afterwards", x.giveKey(1, key), 8 - key);
        }
        for (int key = 0; key < 8; key++) {
            int twice = key;
            Checks.fails("17 twice", Checks.STATE, () -> x.giveKey(1, twice));
        }
        Checks.fails("17 key 8 of a full ring", Checks.ARGUMENT, () -> x.giveKey(1, 8));
        Checks.due("17 other ring", x.giveKey(0, 3), 1);
    }

    private static void promise18TakeKey() {
        MoonlitDoors x = new MoonlitDoors();
        x.addPerson();
        x.giveKey(0, 0);
        x.giveKey(0, 7);
        for (int person : new int[] {-1, 1, 6, MIN, MAX}) {
            Checks.fails("18 person", Checks.INDEX, () -> x.takeKey(person, 0));
        }
        for (int key : new int[] {-1, 1, 8, 32, 39, MIN, MAX, -25}) {
            Checks.fails("18 key " + key, Checks.ELEMENT, () -> x.takeKey(0, key));
        }
        Checks.due("18 one left", x.takeKey(0, 0), 1);
        Checks.fails("18 again", Checks.ELEMENT, () -> x.takeKey(0, 0));
        Checks.due("18 none left", x.takeKey(0, 7), 0);
    }

    private static MoonlitDoors oneOfEach() {
        MoonlitDoors x = new MoonlitDoors();
        x.addDoor(1, 22, 5, 3);
        x.addPerson();
        return x;
    }

    private static void promise19Reasons() {
        MoonlitDoors x = oneOfEach();
        Checks.due("19 no key", x.tryDoor(0, 0), MoonlitDoors.NO_KEY);
        x.giveKey(0, 2);
        Checks.due("19 another key", x.tryDoor(0, 0), MoonlitDoors.NO_KEY);
        x.giveKey(0, 3);
        Checks.due("19 enters", x.tryDoor(0, 0), MoonlitDoors.ENTERED);
        x.advance(5);
        Checks.due("19 last hour", x.tryDoor(0, 0), MoonlitDoors.ENTERED);
        x.advance(1);
        Checks.due("19 wrong hour", x.tryDoor(0, 0), MoonlitDoors.WRONG_HOUR);
        x.advance(16);
        Checks.due("19 first hour", x.tryDoor(0, 0), MoonlitDoors.ENTERED);
        x.advance(48);
        Checks.due("19 last night of the phase", x.tryDoor(0, 0), 0);
        x.advance(24);
        Checks.due("19 day 3", x.tryDoor(0, 0), 0);
        x.advance(2);
        Checks.due("19 behind midnight the new day's phase counts", x.tryDoor(0, 0), MoonlitDoors.WRONG_PHASE);
        x.advance(10);
        Checks.due("19 phase before hour", x.tryDoor(0, 0), MoonlitDoors.WRONG_PHASE);
        x.takeKey(0, 3);
        Checks.due("19 key before phase", x.tryDoor(0, 0), MoonlitDoors.NO_KEY);
        x.addException(0, 4, false);
        Checks.due("19 shut before key", x.tryDoor(0, 0), MoonlitDoors.SHUT);
    }

    private static void promise19ByException() {
        MoonlitDoors x = oneOfEach();
        x.setRule(0, 0, 1, 1, 3);
        x.addException(0, 0, true);
        Checks.due("19 key at an open door", x.tryDoor(0, 0), MoonlitDoors.NO_KEY);
        x.giveKey(0, 3);
        Checks.due("19 open whatever the rule", x.tryDoor(0, 0), MoonlitDoors.ENTERED);
        x.advance(23);
        Checks.due("19 open all day", x.tryDoor(0, 0), MoonlitDoors.ENTERED);
        x.advance(1);
        Checks.due("19 open no longer", x.tryDoor(0, 0), MoonlitDoors.WRONG_PHASE);
    }

    private static void promise20WouldEnter() {
        MoonlitDoors x = oneOfEach();
        Checks.due("20 no key", x.wouldEnter(0, 0), MoonlitDoors.NO_KEY);
        x.giveKey(0, 3);
        Checks.due("20 enters", x.wouldEnter(0, 0), MoonlitDoors.ENTERED);
        x.addException(0, 0, false);
        Checks.due("20 shut", x.wouldEnter(0, 0), MoonlitDoors.SHUT);
        x.advance(34);
        Checks.due("20 wrong hour", x.wouldEnter(0, 0), MoonlitDoors.WRONG_HOUR);
        x.advance(72);
        Checks.due("20 wrong phase", x.wouldEnter(0, 0), MoonlitDoors.WRONG_PHASE);
        Checks.due("20 counts none", x.save(), 0);
        Checks.due("20 counts no entry", x.entriesOf(0), 0);
        Checks.fails("20 logs none", Checks.ELEMENT, () -> x.loggedResult(0));
        x.undo();
        Checks.due("20 is no modification", x.day(), 1);
    }

    private static void promises19And20Wrong() {
        MoonlitDoors x = oneOfEach();
        for (int wrong : new int[] {-1, 1, 6, 8, MIN, MAX}) {
            Checks.fails("19 person", Checks.INDEX, () -> x.tryDoor(wrong, 0));
            Checks.fails("19 door", Checks.INDEX, () -> x.tryDoor(0, wrong));
            Checks.fails("20 person", Checks.INDEX, () -> x.wouldEnter(wrong, 0));
            Checks.fails("20 door", Checks.INDEX, () -> x.wouldEnter(0, wrong));
            Checks.fails("22 person", Checks.INDEX, () -> x.hasKey(wrong, 0));
            Checks.fails("23 person", Checks.INDEX, () -> x.keyAt(wrong, -1));
            Checks.fails("24 person", Checks.INDEX, () -> x.doorsOfRing(wrong));
            Checks.fails("25 rank", Checks.INDEX, () -> x.personByEntries(wrong));
            Checks.fails("26 person", Checks.INDEX, () -> x.entriesOf(wrong));
        }
        Checks.due("19 counts none", x.save(), 0);
    }

    private static void promise22HasKey() {
        MoonlitDoors x = oneOfEach();
        x.giveKey(0, 0);
        x.giveKey(0, 6);
        for (int key = 0; key < 8; key++) {
            Checks.due("22 key " + key, x.hasKey(0, key), key == 0 || key == 6);
        }
        for (int key : new int[] {-1, 8, 32, 38, -26, MIN, MAX}) {
            Checks.due("22 key " + key, x.hasKey(0, key), false);
        }
    }

    private static void promise23KeyAt() {
        MoonlitDoors x = oneOfEach();
        Checks.fails("23 empty", Checks.ELEMENT, () -> x.keyAt(0, 0));
        for (int key : new int[] {6, 0, 7, 4, 1}) {
            x.giveKey(0, key);
        }
        int[] due = {0, 1, 4, 6, 7};
        for (int position = 0; position < 5; position++) {
            Checks.due("23 position " + position, x.keyAt(0, position), due[position]);
        }
        for (int position : new int[] {-1, 5, 8, MIN, MAX}) {
            Checks.fails("23 position " + position, Checks.ELEMENT, () -> x.keyAt(0, position));
        }
    }

    private static void promise24DoorsOfRing() {
        MoonlitDoors x = oneOfEach();
        Checks.due("24 empty", x.doorsOfRing(0), 0);
        x.addDoor(0, 0, 0, 3);
        x.addDoor(0, 0, 0, 5);
        x.giveKey(0, 3);
        x.giveKey(0, 0);
        Checks.due("24 two doors of a key", x.doorsOfRing(0), 2);
        x.giveKey(0, 5);
        x.addException(0, 0, false);
        Checks.due("24 open or not", x.doorsOfRing(0), 3);
        x.setRule(2, 0, 0, 0, 1);
        Checks.due("24 new key", x.doorsOfRing(0), 2);
    }

    private static boolean hasOwn(int person, int key) {
        return (key * 3 + person * 5) % 8 < 3;
    }

    /** Each person has a ring of their own, and the doors have different keys. */
    private static MoonlitDoors sixRings(int[] keys) {
        MoonlitDoors x = new MoonlitDoors();
        for (int key : keys) {
            x.addDoor(255, 0, 23, key);
        }
        for (int person = 0; person < 6; person++) {
            x.addPerson();
            int held = 0;
            for (int key = 7; key >= 0; key--) {
                if (hasOwn(person, key)) {
                    held++;
                    Checks.due("17 keys of person " + person, x.giveKey(person, key), held);
                }
            }
        }
        return x;
    }

    private static void promises17To24EveryPerson() {
        int[] keys = {5, 5, 1, 2, 1, 7, 3, 1};
        MoonlitDoors x = sixRings(keys);
        for (int person = 0; person < 6; person++) {
            int doors = 0;
            for (int door = 0; door < 8; door++) {
                int due = hasOwn(person, keys[door]) ? MoonlitDoors.ENTERED : MoonlitDoors.NO_KEY;
                doors += due == MoonlitDoors.ENTERED ? 1 : 0;
                Checks.due("20 person " + person + " at " + door, x.wouldEnter(person, door), due);
                Checks.due("19 person " + person + " at " + door, x.tryDoor(person, door), due);
            }
            Checks.due("24 person " + person, x.doorsOfRing(person), doors);
            Checks.due("26 person " + person, x.entriesOf(person), doors);
        }
        for (int person = 0; person < 6; person++) {
            int held = 0;
            for (int key = 0; key < 8; key++) {
                Checks.due("22 person " + person + " key " + key, x.hasKey(person, key), hasOwn(person, key));
                if (hasOwn(person, key)) {
                    Checks.due("23 person " + person + " at " + held, x.keyAt(person, held), key);
                    held++;
                }
            }
            takeAll(x, person, held);
        }
    }

    private static void takeAll(MoonlitDoors x, int person, int held) {
        int left = held;
        for (int key = 0; key < 8; key++) {
            int one = key;
            if (hasOwn(person, key)) {
                left--;
                Checks.due("18 left of person " + person, x.takeKey(person, key), left);
            } else {
                Checks.fails("18 person " + person + " key " + key, Checks.ELEMENT, () -> x.takeKey(person, one));
            }
        }
        Checks.due("18 none left of person " + person, x.doorsOfRing(person), 0);
    }

    private static void promises25And26EveryPerson() {
        int[][] entries = {{0, 1, 2, 3, 4, 5}, {5, 4, 3, 2, 1, 0}, {2, 2, 2, 2, 2, 2}, {0, 0, 1, 0, 0, 1}, {3, 0, 3, 1, 0, 4}};
        int[][] ranks = {{5, 4, 3, 2, 1, 0}, {0, 1, 2, 3, 4, 5}, {0, 1, 2, 3, 4, 5}, {2, 5, 0, 1, 3, 4}, {5, 0, 2, 3, 1, 4}};
        for (int i = 0; i < entries.length; i++) {
            MoonlitDoors x = new MoonlitDoors();
            x.addDoor(255, 0, 23, 0);
            for (int person = 0; person < 6; person++) {
                x.addPerson();
                x.giveKey(person, 0);
                for (int made = 0; made < entries[i][person]; made++) {
                    x.tryDoor(person, 0);
                }
            }
            for (int rank = 0; rank < 6; rank++) {
                Checks.due("25 rank " + rank + " of " + i, x.personByEntries(rank), ranks[i][rank]);
                Checks.due("26 person " + rank + " of " + i, x.entriesOf(rank), entries[i][rank]);
            }
        }
    }

    private static void promises25And26Entries() {
        MoonlitDoors x = new MoonlitDoors();
        x.addDoor(255, 0, 23, 0);
        int[] entries = {1, 3, 0, 3, 1};
        for (int person = 0; person < entries.length; person++) {
            x.addPerson();
            x.tryDoor(person, 0);
            x.giveKey(person, 0);
            for (int i = 0; i < entries[person]; i++) {
                x.tryDoor(person, 0);
            }
        }
        x.advance(240);
        int[] order = {1, 3, 0, 4, 2};
        for (int i = 0; i < order.length; i++) {
            Checks.due("25 rank " + i, x.personByEntries(i), order[i]);
            Checks.due("26 person " + i, x.entriesOf(i), entries[i]);
        }
        Checks.fails("25 rank 5", Checks.INDEX, () -> x.personByEntries(5));
        x.addPerson();
        Checks.due("25 rank 5 of six", x.personByEntries(5), 5);
    }
}
