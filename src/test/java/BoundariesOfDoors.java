/** The boundary cases of promises 1 to 15: a new object, doors, exceptions of days and the cycle. */
final class BoundariesOfDoors {
    private static final int MIN = Boundary.MIN, MAX = Boundary.MAX;
    private static final String WRONG_RULE = "Throws `IllegalArgumentException` if the phases, an hour or the key is out of range";

    private BoundariesOfDoors() {
    }

    static void test() {
        Sentences.test(1, "Creates a system without doors and persons at time 0.", BoundariesOfDoors::empty);
        addDoor();
        setRule();
        addException();
        liftException();
        setCycle();
        questions();
        exceptions();
    }

    private static void empty() {
        MoonlitDoors x = new MoonlitDoors();
        Checks.due("doors", x.doorCount(), 0);
        Checks.due("persons", x.personCount(), 0);
        Checks.due("exceptions", x.exceptionCount(), 0);
        Checks.due("time", x.day() * 24 + x.hour(), 0);
    }

    private static void addDoor() {
        Sentences.test(2, "- `phases`: its set of phases, 0 to 255", () -> {
            for (int phases : new int[] {0, 1, 128, 254, 255}) {
                MoonlitDoors x = new MoonlitDoors();
                Checks.due("door of " + phases, x.addDoor(phases, 0, 0, 0), 0);
                Checks.due("phases", x.phasesOf(0), phases);
            }
        });
        Sentences.test(2, "- `firstHour`: its first hour, 0 to 23", () -> {
            for (int hour : new int[] {0, 1, 22, 23}) {
                MoonlitDoors x = new MoonlitDoors();
                Checks.due("door", x.addDoor(0, hour, 10, 0), 0);
                Checks.due("notice", Checks.notice(x, 0), "d0 - " + hour + "-10 k0");
            }
        });
        Sentences.test(2, "- `lastHour`: its last hour, 0 to 23", () -> {
            for (int hour : new int[] {0, 1, 22, 23}) {
                MoonlitDoors x = new MoonlitDoors();
                Checks.due("door", x.addDoor(0, 10, hour, 0), 0);
                Checks.due("notice", Checks.notice(x, 0), "d0 - 10-" + hour + " k0");
            }
        });
        Sentences.test(2, "- `key`: its key, 0 to 7", () -> {
            for (int key : new int[] {0, 1, 6, 7}) {
                MoonlitDoors x = new MoonlitDoors();
                Checks.due("door", x.addDoor(0, 0, 0, key), 0);
                Checks.due("key", x.keyOf(0), key);
            }
        });
        Sentences.test(2, WRONG_RULE, () -> {
            MoonlitDoors x = Boundary.world(7, 0);
            Boundary.refusedOutside(0, 255, x, Checks.ARGUMENT, (y, phases) -> y.addDoor(phases, 0, 0, 0));
            Boundary.refusedOutside(0, 23, x, Checks.ARGUMENT, (y, hour) -> y.addDoor(0, hour, 0, 0));
            Boundary.refusedOutside(0, 23, x, Checks.ARGUMENT, (y, hour) -> y.addDoor(0, 0, hour, 0));
            Boundary.refusedOutside(0, 7, x, Checks.ARGUMENT, (y, key) -> y.addDoor(0, 0, 0, key));
        });
        Sentences.test(2, "Throws `IllegalStateException` if there are 8 doors", () -> {
            MoonlitDoors x = Boundary.world(7, 0);
            Checks.due("an eighth door", x.addDoor(0, 0, 0, 0), 7);
            Boundary.refused("a ninth door", x, Checks.STATE, () -> x.addDoor(0, 0, 0, 0));
        });
    }

    private static void setRule() {
        Sentences.test(3, "- `phases`: the new set of phases, 0 to 255", () -> {
            MoonlitDoors x = Boundary.world(2, 0);
            for (int phases : new int[] {0, 1, 128, 254, 255}) {
                Checks.due("key before", x.setRule(1, phases, 0, 0, 6), phases == 0 ? 1 : 6);
                Checks.due("phases", x.phasesOf(1), phases);
            }
        });
        Sentences.test(3, "- `firstHour`: the new first hour, 0 to 23", () -> {
            MoonlitDoors x = Boundary.world(1, 0);
            for (int hour : new int[] {0, 1, 22, 23}) {
                x.setRule(0, 0, hour, 10, 0);
                Checks.due("notice", Checks.notice(x, 0), "d0 - " + hour + "-10 k0");
            }
        });
        Sentences.test(3, "- `lastHour`: the new last hour, 0 to 23", () -> {
            MoonlitDoors x = Boundary.world(1, 0);
            for (int hour : new int[] {0, 1, 22, 23}) {
                x.setRule(0, 0, 10, hour, 0);
                Checks.due("notice", Checks.notice(x, 0), "d0 - 10-" + hour + " k0");
            }
        });
        Sentences.test(3, "- `key`: the new key, 0 to 7", () -> {
            MoonlitDoors x = Boundary.world(8, 0);
            Checks.due("previous key", x.setRule(7, 0, 0, 0, 0), 7);
            Checks.due("least key", x.keyOf(7), 0);
            Checks.due("previous least key", x.setRule(7, 0, 0, 0, 7), 0);
            Checks.due("greatest key", x.keyOf(7), 7);
        });
        Sentences.test(3, Boundary.NO_DOOR, () -> Boundary.noSuchDoor((x, door) -> x.setRule(door, 1, 2, 3, 4)));
        Sentences.test(3, WRONG_RULE, () -> {
            MoonlitDoors x = Boundary.world(8, 0);
            Boundary.refusedOutside(0, 255, x, Checks.ARGUMENT, (y, phases) -> y.setRule(7, phases, 0, 0, 0));
            Boundary.refusedOutside(0, 23, x, Checks.ARGUMENT, (y, hour) -> y.setRule(7, 0, hour, 0, 0));
            Boundary.refusedOutside(0, 23, x, Checks.ARGUMENT, (y, hour) -> y.setRule(7, 0, 0, hour, 0));
            Boundary.refusedOutside(0, 7, x, Checks.ARGUMENT, (y, key) -> y.setRule(7, 0, 0, 0, key));
        });
    }

    private static void addException() {
        Sentences.test(4, "- `day`: the day, 0 to 999", () -> {
            MoonlitDoors x = Boundary.world(1, 0);
            int made = 0;
            for (int day : new int[] {0, 1, 998, 999}) {
                made++;
                Checks.due("exceptions", x.addException(0, day, true), made);
                Checks.due("held", x.hasException(0, day), true);
            }
            Boundary.passTo(x, 999, 23);
            Checks.due("the last day, when it is the present one", x.isUnlocked(0), true);
        });
        Sentences.test(4, Boundary.NO_DOOR, () -> Boundary.noSuchDoor((x, door) -> x.addException(door, 5, true)));
        Sentences.test(4, "Throws `IllegalArgumentException` if the day is out of range", () -> {
            MoonlitDoors x = Boundary.world(1, 0);
            Boundary.refusedOutside(0, 999, x, Checks.ARGUMENT, (y, day) -> y.addException(0, day, true));
            Boundary.passTo(x, 1000, 0);
            Boundary.refused("the present day 1000", x, Checks.ARGUMENT, () -> x.addException(0, 1000, true));
        });
        Sentences.test(4, "Throws `UnsupportedOperationException` if the day is before the present day", () -> {
            MoonlitDoors x = Boundary.world(1, 0);
            Boundary.passTo(x, 3, 23);
            Boundary.refused("the day before", x, Checks.UNSUPPORTED, () -> x.addException(0, 2, true));
            Boundary.refused("the first day", x, Checks.UNSUPPORTED, () -> x.addException(0, 0, false));
            Checks.due("the present day at its last hour", x.addException(0, 3, false), 1);
            Boundary.passTo(x, 1000, 0);
            Boundary.refused("the last day on the day behind it", x, Checks.UNSUPPORTED, () -> x.addException(0, 999, true));
        });
        Sentences.test(4, "Throws `IllegalStateException` if the door has an exception for this day, or there are 12 exceptions",
                BoundariesOfDoors::addedTwiceOrFull);
    }

    private static void addedTwiceOrFull() {
        MoonlitDoors x = Boundary.world(8, 0);
        x.addException(3, 0, false);
        Boundary.refused("the same again", x, Checks.STATE, () -> x.addException(3, 0, false));
        Boundary.refused("the other kind", x, Checks.STATE, () -> x.addException(3, 0, true));
        Checks.due("another door", x.addException(4, 0, true), 2);
        Checks.due("another day", x.addException(3, 1, true), 3);
        for (int day = 10; day < 19; day++) {
            Checks.due("more", x.addException(7, day, true), day - 6);
        }
        Boundary.refused("a thirteenth", x, Checks.STATE, () -> x.addException(7, 19, true));
        Boundary.refused("one of the twelve", x, Checks.STATE, () -> x.addException(7, 18, true));
    }

    private static void liftException() {
        Sentences.test(5, "- `day`: the day, any integer", () -> {
            MoonlitDoors x = Boundary.world(1, 0);
            x.addException(0, 0, true);
            x.addException(0, 999, false);
            for (int day : new int[] {MIN, -1, 1, 998, 1000, MAX}) {
                Checks.fails("day " + day, Checks.ELEMENT, () -> x.liftException(0, day));
            }
            Boundary.passTo(x, 1000, 0);
            Checks.due("first day", x.liftException(0, 0), true);
            Checks.due("last day", x.liftException(0, 999), false);
        });
        Sentences.test(5, Boundary.NO_DOOR, () -> Boundary.noSuchDoor((x, door) -> x.liftException(door, 5)));
        Sentences.test(5, "Throws `NoSuchElementException` if the door has no exception for this day", () -> {
            MoonlitDoors x = Boundary.world(2, 0);
            Boundary.refused("none at all", x, Checks.ELEMENT, () -> x.liftException(0, 0));
            x.addException(1, 0, true);
            x.addException(0, 1, true);
            Boundary.refused("another door or day", x, Checks.ELEMENT, () -> x.liftException(0, 0));
            x.liftException(1, 0);
            Boundary.refused("lifted before", x, Checks.ELEMENT, () -> x.liftException(1, 0));
        });
    }

    private static void setCycle() {
        Sentences.test(6, "- `days`: the new cycle, 24 to 32", () -> {
            MoonlitDoors x = new MoonlitDoors();
            int previous = 29;
            for (int days : new int[] {24, 25, 31, 32, 32, 24}) {
                Checks.due("previous", x.setCycle(days), previous);
                Checks.due("last day of " + days, x.phaseOn(days - 1), 7);
                Checks.due("first day behind " + days, x.phaseOn(days), 0);
                previous = days;
            }
        });
        Sentences.test(6, "Throws `IllegalArgumentException` if the cycle is out of range", () -> {
            MoonlitDoors x = new MoonlitDoors();
            Boundary.refusedOutside(24, 32, x, Checks.ARGUMENT, MoonlitDoors::setCycle);
            Boundary.refused("no cycle", x, Checks.ARGUMENT, () -> x.setCycle(0));
            Checks.due("the cycle at first is kept", x.setCycle(24), 29);
        });
    }

    private static void questions() {
        Sentences.test(7, "Returns the number of doors.", () -> {
            MoonlitDoors x = new MoonlitDoors();
            for (int doors = 0; doors < 8; doors++) {
                Checks.due("doors", x.doorCount(), doors);
                x.addDoor(0, 0, 0, 0);
            }
            Checks.due("full", x.doorCount(), 8);
        });
        Sentences.test(8, Boundary.NO_DOOR, () -> Boundary.noSuchDoor(MoonlitDoors::phasesOf));
        Sentences.test(9, Boundary.NO_DOOR, () -> Boundary.noSuchDoor(MoonlitDoors::keyOf));
        Sentences.test(10, "- `hour`: the hour, 0 to 23", () -> {
            MoonlitDoors x = new MoonlitDoors();
            x.addDoor(0, 23, 0, 0);
            Checks.due("hour 0", x.isHourOf(0, 0), true);
            Checks.due("hour 1", x.isHourOf(0, 1), false);
            Checks.due("hour 22", x.isHourOf(0, 22), false);
            Checks.due("hour 23", x.isHourOf(0, 23), true);
        });
        Sentences.test(10, Boundary.NO_DOOR, () -> Boundary.noSuchDoor((x, door) -> x.isHourOf(door, 0)));
        Sentences.test(10, "Throws `IllegalArgumentException` if the hour is out of range", () -> {
            Boundary.refusedOutside(0, 23, Boundary.world(1, 0), Checks.ARGUMENT, (x, hour) -> x.isHourOf(0, hour));
        });
        Sentences.test(11, "Returns the number of hours, 1 to 24.", () -> {
            int[][] rules = {{0, 0, 1}, {23, 23, 1}, {7, 7, 1}, {0, 23, 24}, {12, 11, 24}, {23, 22, 24}, {23, 0, 2}, {0, 22, 23}};
            for (int[] rule : rules) {
                MoonlitDoors x = new MoonlitDoors();
                x.addDoor(0, rule[0], rule[1], 0);
                Checks.due("hours of " + rule[0] + "-" + rule[1], x.hourCount(0), rule[2]);
            }
        });
        Sentences.test(11, Boundary.NO_DOOR, () -> Boundary.noSuchDoor(MoonlitDoors::hourCount));
        Sentences.test(12, "Returns the number of exceptions.", () -> {
            MoonlitDoors x = Boundary.world(1, 0);
            for (int day = 0; day < 12; day++) {
                Checks.due("exceptions", x.exceptionCount(), day);
                x.addException(0, day, true);
            }
            Checks.due("full", x.exceptionCount(), 12);
        });
    }

    private static void exceptions() {
        Sentences.test(13, "- `day`: the day, any integer", () -> {
            MoonlitDoors x = Boundary.world(1, 0);
            x.addException(0, 0, true);
            x.addException(0, 999, false);
            for (int day : new int[] {MIN, -1, 0, 1, 998, 999, 1000, MAX}) {
                Checks.due("day " + day, x.hasException(0, day), day == 0 || day == 999);
            }
        });
        Sentences.test(13, Boundary.NO_DOOR, () -> Boundary.noSuchDoor((x, door) -> x.hasException(door, 5)));
        Sentences.test(14, "Returns the door of an exception, in the order of days, and of doors on the same day.",
                () -> order(false));
        Sentences.test(14, "- `position`: the position in this order, from 0", () -> positions(MoonlitDoors::exceptionDoor, 0));
        Sentences.test(14, "Throws `NoSuchElementException` if there is no such position",
                () -> noPosition(MoonlitDoors::exceptionDoor));
        Sentences.test(15, "Returns the day of an exception, in the order of exceptionDoor.", () -> order(true));
        Sentences.test(15, "- `position`: the position, from 0", () -> positions(MoonlitDoors::exceptionDay, 990));
        Sentences.test(15, "Throws `NoSuchElementException` if there is no such position",
                () -> noPosition(MoonlitDoors::exceptionDay));
    }

    /** Adds all pairs of four doors and three days in a mixed order; the step 5 meets each pair once. */
    private static void order(boolean days) {
        MoonlitDoors x = Boundary.world(8, 0);
        for (int i = 0; i < 12; i++) {
            int pair = i * 5 % 12;
            x.addException(pair % 4 * 2, pair / 4 * 400, true);
        }
        for (int i = 0; i < 12; i++) {
            Checks.due("position " + i, days ? x.exceptionDay(i) : x.exceptionDoor(i), days ? i / 4 * 400 : i % 4 * 2);
        }
    }

    private static void positions(Boundary.Asked call, int least) {
        MoonlitDoors x = Boundary.world(8, 0);
        for (int i = 7; i >= 0; i--) {
            x.addException(i, 990 + i, true);
        }
        for (int i = 0; i < 8; i++) {
            Checks.due("position " + i, call.of(x, i), least + i);
        }
        x.liftException(0, 990);
        Checks.due("first position", call.of(x, 0), least + 1);
        Checks.due("last position", call.of(x, 6), least + 7);
    }

    private static void noPosition(Boundary.Asked call) {
        MoonlitDoors x = Boundary.world(1, 0);
        for (int count = 0; count <= 12; count++) {
            Boundary.refusedOutside(0, count - 1, x, Checks.ELEMENT, call);
            int day = count;
            Checks.outcome(() -> x.addException(0, day, true));
        }
        x.liftException(0, 3);
        Boundary.refused("behind the last, when one is lifted", x, Checks.ELEMENT, () -> call.of(x, 11));
    }
}
