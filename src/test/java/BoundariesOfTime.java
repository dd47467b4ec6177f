/** The boundary cases of promises 27 to 36: time, the moon and unlocked doors. */
final class BoundariesOfTime {
    private static final String TOO_FAR = "Throws `NoSuchElementException` if it is not unlocked at any time within 1000 hours,"
            + " the 1000th one included";
    private static final String HOURS_OR_0 = "Returns the number of hours, 0 if it is unlocked now.";

    private BoundariesOfTime() {
    }

    static void test() {
        time();
        moon();
        Sentences.test(32, Boundary.NO_DOOR, () -> Boundary.noSuchDoor(MoonlitDoors::isUnlocked));
        hoursUntil(33, MoonlitDoors::hoursUntilUnlocked);
        hoursUntil(34, MoonlitDoors::hoursUntilUnlockedByDays);
        Sentences.test(34, "Returns the same number as hoursUntilUnlocked", BoundariesOfTime::bothWays);
        unlockedHours();
        openDoors();
    }

    private static void time() {
        Sentences.test(27, "- `hours`: number of hours, 1 to 240", () -> {
            MoonlitDoors x = new MoonlitDoors();
            Checks.due("least", x.advance(1), 0);
            Checks.due("hour", x.hour(), 1);
            Checks.due("greatest", x.advance(240), 10);
            Checks.due("hour", x.hour(), 1);
            Checks.due("greatest but one", x.advance(239), 20);
            Checks.due("hour", x.hour(), 0);
        });
        Sentences.test(27, "Throws `IllegalArgumentException` if the number of hours is out of range", () -> {
            Boundary.refusedOutside(1, 240, Boundary.world(1, 0), Checks.ARGUMENT, MoonlitDoors::advance);
        });
        Sentences.test(28, "Returns the day.", () -> {
            MoonlitDoors x = new MoonlitDoors();
            x.advance(23);
            Checks.due("before midnight", x.day(), 0);
            x.advance(1);
            Checks.due("at midnight", x.day(), 1);
        });
        Sentences.test(29, "Returns the hour, 0 to 23.", () -> {
            MoonlitDoors x = new MoonlitDoors();
            for (int time = 0; time <= 48; time++) {
                Checks.due("hour of time " + time, x.hour(), time % 24);
                x.advance(1);
            }
        });
    }

    private static void moon() {
        Sentences.test(30, "Returns the phase of a day, with the present cycle.", () -> {
            MoonlitDoors x = new MoonlitDoors();
            Checks.due("by 29", x.phaseOn(29), 0);
            x.setCycle(30);
            Checks.due("by 30", x.phaseOn(29), 7);
            x.undo();
            Checks.due("by 29 again", x.phaseOn(29), 0);
        });
        Sentences.test(30, "- `day`: the day, 0 to 9999", () -> {
            MoonlitDoors x = new MoonlitDoors();
            Boundary.passTo(x, 40, 0);
            Checks.due("least", x.phaseOn(0), 0);
            Checks.due("greatest", x.phaseOn(9999), 6);
            x.setCycle(24);
            Checks.due("greatest by 24", x.phaseOn(9999), 5);
            x.setCycle(32);
            Checks.due("greatest by 32", x.phaseOn(9999), 3);
        });
        Sentences.test(30, "Throws `IllegalArgumentException` if the day is out of range", () -> {
            Boundary.refusedOutside(0, 9999, Boundary.world(1, 0), Checks.ARGUMENT, MoonlitDoors::phaseOn);
        });
        Sentences.test(31, "- `phase`: the phase, 0 to 7", () -> {
            MoonlitDoors x = new MoonlitDoors();
            Boundary.passTo(x, 10, 23);
            Checks.due("least", x.daysUntilPhase(0), 19);
            Checks.due("greatest", x.daysUntilPhase(7), 16);
        });
        Sentences.test(31, "Returns the number of days until the next day after the present one with a phase.", () -> {
            for (int cycle = 24; cycle <= 32; cycle++) {
                MoonlitDoors x = new MoonlitDoors();
                x.setCycle(cycle);
                int last = (cycle + 7) / 8 - 1;
                Boundary.passTo(x, last, 23);
                Checks.due("the phase of the present day, its last one, by " + cycle, x.daysUntilPhase(0), cycle - last);
                x.advance(1);
                Checks.due("the phase that has just ended, by " + cycle, x.daysUntilPhase(0), cycle - last - 1);
                Boundary.passTo(x, cycle - 1, 0);
                Checks.due("the next cycle's first phase, by " + cycle, x.daysUntilPhase(0), 1);
                Checks.due("the cycle's last phase, by " + cycle, x.daysUntilPhase(7), 1 + (7 * cycle + 7) / 8);
            }
        });
        Sentences.test(31, "Returns the number of days, at least 1.", () -> {
            MoonlitDoors x = new MoonlitDoors();
            Checks.due("the present phase tomorrow", x.daysUntilPhase(0), 1);
            x.advance(72);
            Checks.due("the next phase tomorrow", x.daysUntilPhase(1), 1);
            x.advance(23);
            Checks.due("the next phase in an hour", x.daysUntilPhase(1), 1);
        });
        Sentences.test(31, "Throws `IllegalArgumentException` if the phase is out of range", () -> {
            Boundary.refusedOutside(0, 7, Boundary.world(1, 0), Checks.ARGUMENT, MoonlitDoors::daysUntilPhase);
        });
    }

    private static void hoursUntil(int promise, Boundary.Asked call) {
        Sentences.test(promise, HOURS_OR_0, () -> unlockedNow(call));
        Sentences.test(promise, Boundary.NO_DOOR, () -> Boundary.noSuchDoor(call));
        Sentences.test(promise, TOO_FAR, () -> {
            never(call);
            farByException(call);
            farByRule(call);
        });
    }

    private static void unlockedNow(Boundary.Asked call) {
        MoonlitDoors x = new MoonlitDoors();
        x.addDoor(1, 22, 5, 0);
        Checks.due("at the first hour of a day", call.of(x, 0), 0);
        x.advance(5);
        Checks.due("at the last hour", call.of(x, 0), 0);
        x.advance(1);
        Checks.due("behind the last hour", call.of(x, 0), 16);
        x.advance(15);
        Checks.due("an hour before the first one", call.of(x, 0), 1);
        x.advance(1);
        Checks.due("at the first hour", call.of(x, 0), 0);
        x.advance(1);
        Checks.due("at the last hour of a day", call.of(x, 0), 0);
        x.addException(0, 0, false);
        Checks.due("shut to midnight", call.of(x, 0), 1);
        Boundary.passTo(x, 3, 23);
        Checks.due("at the last hour of the phase", call.of(x, 0), 0);
        x.advance(1);
        Checks.due("behind the phase", call.of(x, 0), 25 * 24);
        x.addException(0, 4, true);
        Checks.due("opened now", call.of(x, 0), 0);
    }

    private static void never(Boundary.Asked call) {
        MoonlitDoors x = new MoonlitDoors();
        x.addDoor(0, 0, 23, 0);
        Boundary.refused("no phases", x, Checks.ELEMENT, () -> call.of(x, 0));
    }

    private static void farByException(Boundary.Asked call) {
        MoonlitDoors x = new MoonlitDoors();
        x.addDoor(0, 3, 4, 0);
        x.addException(0, 60, true);
        for (int hours : new int[] {1440, 1024, 1002, 1001}) {
            Boundary.pass(x, 1440 - hours - x.day() * 24 - x.hour());
            Boundary.refused("unlocked in " + hours + " hours", x, Checks.ELEMENT, () -> call.of(x, 0));
        }
        for (int hours : new int[] {1000, 999, 976, 1, 0}) {
            Boundary.pass(x, 1440 - hours - x.day() * 24 - x.hour());
            Checks.due("unlocked in " + hours + " hours", call.of(x, 0), hours);
        }
        Boundary.passTo(x, 61, 0);
        Boundary.refused("the exception's day has passed", x, Checks.ELEMENT, () -> call.of(x, 0));
    }

    /** By a cycle of 32 days phase 2 has the days 8 to 11 and 40 to 43; the first five of them are shut. */
    private static void farByRule(Boundary.Asked call) {
        MoonlitDoors x = new MoonlitDoors();
        x.setCycle(32);
        x.addDoor(1 << 2, 16, 16, 0);
        for (int day : new int[] {8, 9, 10, 11, 40}) {
            x.addException(0, day, false);
        }
        Checks.due("day 41 at 16", call.of(x, 0), 1000);
        x.setRule(0, 1 << 2, 17, 15, 0);
        Checks.due("day 41 at 0", call.of(x, 0), 984);
        x.setRule(0, 1 << 2, 17, 23, 0);
        Boundary.refused("day 41 at 17", x, Checks.ELEMENT, () -> call.of(x, 0));
        x.advance(1);
        Checks.due("day 41 at 17, an hour later", call.of(x, 0), 1000);
    }

    private static void bothWays() {
        int[] hours = {0, 1, 5, 12, 22, 23};
        for (int first : hours) {
            for (int last : hours) {
                MoonlitDoors x = new MoonlitDoors();
                x.addDoor(1 + 2 + 128, first, last, 0);
                x.addException(0, 1, false);
                x.addException(0, 9, true);
                for (int i = 0; i < 60; i++) {
                    Object due = Checks.outcome(() -> x.hoursUntilUnlocked(0));
                    Checks.due(first + "-" + last + " on day " + x.day() + " at " + x.hour(),
                            Checks.outcome(() -> x.hoursUntilUnlockedByDays(0)), due);
                    x.advance(13);
                }
            }
        }
    }

    private static void unlockedHours() {
        Sentences.test(35, "Returns for how many hours a door is unlocked in a number of days, beginning with the whole present day.",
                () -> {
            MoonlitDoors x = new MoonlitDoors();
            x.addDoor(1, 0, 2, 0);
            x.advance(23);
            Checks.due("hours that have passed today", x.unlockedHours(0, 1), 3);
            x.advance(1);
            Checks.due("not those of the day before", x.unlockedHours(0, 1), 3);
            Checks.due("to the phase's last day", x.unlockedHours(0, 3), 9);
            Checks.due("to the next cycle's first day but one", x.unlockedHours(0, 28), 9);
            Checks.due("to the next cycle's first day", x.unlockedHours(0, 29), 12);
            x.addException(0, 1, true);
            Checks.due("opened all day", x.unlockedHours(0, 1), 24);
            x.addException(0, 2, false);
            Checks.due("and shut all day", x.unlockedHours(0, 2), 24);
        });
        Sentences.test(35, "- `days`: the number of days, 1 to 99", () -> {
            MoonlitDoors x = Boundary.world(1, 0);
            Checks.due("least", x.unlockedHours(0, 1), 24);
            Checks.due("least but one", x.unlockedHours(0, 2), 48);
            Checks.due("greatest", x.unlockedHours(0, 99), 2376);
            x.setRule(0, 255, 23, 0, 0);
            Checks.due("greatest by hours around midnight", x.unlockedHours(0, 99), 198);
        });
        Sentences.test(35, Boundary.NO_DOOR, () -> Boundary.noSuchDoor((x, door) -> x.unlockedHours(door, 1)));
        Sentences.test(35, "Throws `IllegalArgumentException` if the number of days is out of range", () -> {
            Boundary.refusedOutside(1, 99, Boundary.world(1, 0), Checks.ARGUMENT, (x, days) -> x.unlockedHours(0, days));
        });
    }

    private static void openDoors() {
        Sentences.test(36, "Returns the number of doors that a person could enter now.", () -> {
            Checks.due("no doors", Boundary.world(0, 1).openDoorsFor(0), 0);
            MoonlitDoors x = Boundary.world(8, 6);
            for (int key = 0; key < 8; key++) {
                Checks.due("doors of " + key + " keys", x.openDoorsFor(5), key);
                x.giveKey(5, key);
            }
            Checks.due("all doors", x.openDoorsFor(5), 8);
            Checks.due("an empty ring", x.openDoorsFor(4), 0);
            x.addException(0, 0, false);
            Checks.due("one shut", x.openDoorsFor(5), 7);
            x.setRule(7, 254, 0, 23, 7);
            Checks.due("one of another phase", x.openDoorsFor(5), 6);
            x.setRule(6, 255, 1, 23, 6);
            Checks.due("one of other hours", x.openDoorsFor(5), 5);
            x.addException(6, 0, true);
            Checks.due("one opened", x.openDoorsFor(5), 6);
        });
        Sentences.test(36, Boundary.NO_PERSON, () -> Boundary.noSuchPerson(MoonlitDoors::openDoorsFor));
    }
}
