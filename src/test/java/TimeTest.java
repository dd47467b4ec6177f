/** Promises 27 to 36: time, the moon and unlocked doors. */
public final class TimeTest {
    private static final int MIN = Integer.MIN_VALUE, MAX = Integer.MAX_VALUE;

    public static void main(String[] args) {
        promises27To29Advance();
        promise30PhaseOn();
        promise31DaysUntilPhase();
        promise32IsUnlocked();
        promises33And34Ordinary();
        promises33And34Limit();
        promises33And34EveryRule();
        promise35UnlockedHours();
        promises32To35EveryDoor();
        promise36OpenDoorsFor();
        promise36EveryPerson();
        wrongDoors();
        Checks.finish();
    }

    private static void promises27To29Advance() {
        MoonlitDoors x = new MoonlitDoors();
        for (int hours : new int[] {0, -1, 241, MIN, MAX}) {
            Checks.fails("27 hours " + hours, Checks.ARGUMENT, () -> x.advance(hours));
        }
        Checks.due("27 one", x.advance(1), 0);
        Checks.due("29 hour", x.hour(), 1);
        Checks.due("27 to 23", x.advance(22), 0);
        Checks.due("29 hour 23", x.hour(), 23);
        Checks.due("27 midnight", x.advance(1), 1);
        Checks.due("28 day", x.day(), 1);
        Checks.due("29 hour 0", x.hour(), 0);
        Checks.due("27 most", x.advance(240), 11);
        Checks.due("27 most and more", x.advance(239), 20);
        Checks.due("28 day 20", x.day(), 20);
        Checks.due("29 hour 23", x.hour(), 23);
    }

    private static void promise30PhaseOn() {
        MoonlitDoors x = new MoonlitDoors();
        for (int cycle = 24; cycle <= 32; cycle++) {
            x.setCycle(cycle);
            for (int day = 0; day <= 9999; day += day < 70 ? 1 : 331) {
                int due = (int) Math.floor((day - cycle * Math.floor(day / (double) cycle)) * 8 / cycle);
                Checks.due("30 day " + day + " of " + cycle, x.phaseOn(day), due);
            }
        }
        x.setCycle(29);
        Checks.due("30 day 9999", x.phaseOn(9999), 6);
        for (int day : new int[] {-1, 10000, MIN, MAX}) {
            Checks.fails("30 day " + day, Checks.ARGUMENT, () -> x.phaseOn(day));
        }
    }

    private static void promise31DaysUntilPhase() {
        for (int cycle = 24; cycle <= 32; cycle++) {
            MoonlitDoors x = new MoonlitDoors();
            x.setCycle(cycle);
            for (int day = 0; day <= 2 * cycle; day++) {
                for (int phase = 0; phase < 8; phase++) {
                    int due = 1;
                    while (x.phaseOn(day + due) != phase) {
                        due++;
                    }
                    Checks.due("31 phase " + phase + " after " + day + " of " + cycle, x.daysUntilPhase(phase), due);
                }
                x.advance(24);
            }
        }
        MoonlitDoors x = new MoonlitDoors();
        Checks.due("31 tomorrow", x.daysUntilPhase(0), 1);
        x.advance(72);
        Checks.due("31 round", x.daysUntilPhase(0), 26);
        for (int phase : new int[] {-1, 8, MIN, MAX}) {
            Checks.fails("31 phase " + phase, Checks.ARGUMENT, () -> x.daysUntilPhase(phase));
        }
    }

    private static void promise32IsUnlocked() {
        MoonlitDoors x = new MoonlitDoors();
        x.addDoor(1, 22, 5, 0);
        for (int time = 0; time < 140; time++) {
            boolean due = time < 96 && (time % 24 >= 22 || time % 24 <= 5);
            Checks.due("32 time " + time, x.isUnlocked(0), due);
            x.advance(1);
        }
        x.addException(0, 6, true);
        x.addException(0, 29, false);
        x.advance(4);
        for (int hour = 0; hour < 24; hour++) {
            Checks.due("32 open on day 6", x.isUnlocked(0), true);
            x.advance(1);
        }
        Checks.due("32 shut on day 7", x.isUnlocked(0), false);
        x.advance(240);
        x.advance(240);
        x.advance(48);
        Checks.due("32 day", x.day(), 29);
        Checks.due("32 shut by exception", x.isUnlocked(0), false);
        x.advance(24);
        Checks.due("32 by rule again", x.isUnlocked(0), true);
    }

    private static void both(String what, MoonlitDoors x, int door, int due) {
        Checks.due("33 " + what, x.hoursUntilUnlocked(door), due);
        Checks.due("34 " + what, x.hoursUntilUnlockedByDays(door), due);
    }

    private static void neither(String what, MoonlitDoors x, int door) {
        Checks.fails("33 " + what, Checks.ELEMENT, () -> x.hoursUntilUnlocked(door));
        Checks.fails("34 " + what, Checks.ELEMENT, () -> x.hoursUntilUnlockedByDays(door));
    }

    private static void promises33And34Ordinary() {
        MoonlitDoors x = new MoonlitDoors();
        x.addDoor(1, 22, 5, 0);
        x.addDoor(2, 7, 9, 0);
        both("now", x, 0, 0);
        both("another phase", x, 1, 4 * 24 + 7);
        x.advance(6);
        both("this evening", x, 0, 16);
        x.addException(0, 0, false);
        both("shut today", x, 0, 18);
        x.addException(1, 0, true);
        both("open today", x, 1, 0);
        x.liftException(1, 0);
        x.addException(1, 2, true);
        both("open in two days", x, 1, 42);
        x.advance(80);
        x.advance(24);
        both("behind the hours of the last day", x, 1, 1 * 24 - 14 + 7);
    }

    private static void promises33And34Limit() {
        MoonlitDoors x = new MoonlitDoors();
        x.addDoor(0, 0, 23, 0);
        neither("no phase", x, 0);
        x.addException(0, 42, true);
        neither("after 1008 hours", x, 0);
        x.advance(7);
        neither("after 1001 hours", x, 0);
        x.advance(1);
        both("after 1000 hours", x, 0, 1000);
        x.advance(1);
        both("after 999 hours", x, 0, 999);
        x.addException(0, 41, true);
        both("a day before", x, 0, 975);
        limitByRule();
    }

    /** The days 29 to 32, when the phase comes again, are shut; so it is day 58, in the hours from 1 or from 2. */
    private static void limitByRule() {
        MoonlitDoors x = new MoonlitDoors();
        x.addDoor(1, 1, 3, 0);
        x.addDoor(1, 2, 3, 0);
        for (int day = 29; day <= 32; day++) {
            x.addException(0, day, false);
            x.addException(1, day, false);
        }
        x.advance(240);
        x.advance(6 * 24 + 9);
        both("after 1000 hours by its rule", x, 0, 1000);
        neither("after 1001 hours by its rule", x, 1);
        x.advance(1);
        both("after 999 hours by its rule", x, 0, 999);
        both("after 1000 hours by the other rule", x, 1, 1000);
    }

    private static void promises33And34EveryRule() {
        for (int seed = 0; seed < 400; seed++) {
            MoonlitDoors x = new MoonlitDoors();
            x.setCycle(24 + seed % 9);
            x.addDoor(seed * 37 % 256, seed * 5 % 24, seed * 11 % 24, 0);
            x.addException(0, seed % 30, seed % 3 == 0);
            x.advance(1 + seed % 240);
            int due = firstUnlocked(x);
            if (due < 0) {
                neither("rule " + seed, x, 0);
            } else {
                both("rule " + seed, x, 0, due);
            }
        }
    }

    /** Waits until the door is unlocked, and then brings the time back. */
    private static int firstUnlocked(MoonlitDoors x) {
        x.save();
        int due = -1;
        for (int hours = 0; hours <= 1000 && due < 0; hours++) {
            due = x.isUnlocked(0) ? hours : -1;
            x.advance(1);
        }
        x.restore();
        return due;
    }

    private static void promise35UnlockedHours() {
        MoonlitDoors x = new MoonlitDoors();
        x.addDoor(1, 22, 5, 0);
        Checks.due("35 one day", x.unlockedHours(0, 1), 8);
        Checks.due("35 a cycle", x.unlockedHours(0, 29), 32);
        Checks.due("35 the next cycle", x.unlockedHours(0, 30), 40);
        x.advance(23);
        Checks.due("35 the whole present day", x.unlockedHours(0, 1), 8);
        x.addException(0, 1, false);
        x.addException(0, 5, true);
        Checks.due("35 with exceptions", x.unlockedHours(0, 6), 48);
        x.advance(1);
        Checks.due("35 without the day before", x.unlockedHours(0, 5), 40);
        Checks.due("35 most days", x.unlockedHours(0, 99), 2 * 8 + 24 + 3 * 32);
        for (int days : new int[] {0, -1, 100, MIN, MAX}) {
            Checks.fails("35 days " + days, Checks.ARGUMENT, () -> x.unlockedHours(0, days));
        }
    }

    /** Doors as phases, first and last hour, and exceptions as door, day, and 1 if they open. */
    private static final int[][] RULES = {{1, 22, 5}, {6, 9, 9}, {0, 0, 23}, {255, 13, 12}, {129, 6, 17}};
    private static final int[][] EXCEPTIONS = {{0, 1, 0}, {1, 0, 1}, {1, 4, 0}, {2, 3, 1}, {2, 5, 1}, {3, 2, 0}, {4, 1, 1}};

    private static boolean unlocked(int door, int time) {
        for (int[] exception : EXCEPTIONS) {
            if (exception[0] == door && exception[1] == time / 24) {
                return exception[2] == 1;
            }
        }
        int phase = time / 24 % 29 * 8 / 29;
        int hour = time % 24;
        int first = RULES[door][1];
        int last = RULES[door][2];
        boolean fits = first <= last ? first <= hour && hour <= last : first <= hour || hour <= last;
        return fits && (RULES[door][0] >> phase & 1) == 1;
    }

    private static int firstUnlocked(int door, int time) {
        int hours = 0;
        while (hours <= 1000 && !unlocked(door, time + hours)) {
            hours++;
        }
        return hours;
    }

    private static int countUnlocked(int door, int day, int days) {
        int count = 0;
        for (int time = day * 24; time < (day + days) * 24; time++) {
            count += unlocked(door, time) ? 1 : 0;
        }
        return count;
    }

    private static void promises32To35EveryDoor() {
        for (int start = 0; start < 240; start += 7) {
            MoonlitDoors x = new MoonlitDoors();
            for (int[] rule : RULES) {
                x.addDoor(rule[0], rule[1], rule[2], 0);
            }
            for (int[] exception : EXCEPTIONS) {
                x.addException(exception[0], exception[1], exception[2] == 1);
            }
            for (int time = start == 0 ? 0 : x.advance(start) * 24 + x.hour(); time < start + 3; time++) {
                for (int door = 0; door < RULES.length; door++) {
                    everyDoor(x, door, time);
                }
                x.advance(1);
            }
        }
    }

    private static void everyDoor(MoonlitDoors x, int door, int time) {
        String place = "door " + door + " at " + time;
        Checks.due("32 " + place, x.isUnlocked(door), unlocked(door, time));
        int hours = firstUnlocked(door, time);
        if (hours > 1000) {
            neither(place, x, door);
        } else {
            both(place, x, door, hours);
        }
        for (int days : new int[] {1, 2, 6, 99}) {
            Checks.due("35 " + place + " for " + days, x.unlockedHours(door, days), countUnlocked(door, time / 24, days));
        }
    }

    private static void promise36EveryPerson() {
        MoonlitDoors x = new MoonlitDoors();
        int[] keys = {5, 5, 1, 2, 1, 7, 3, 1};
        for (int key : keys) {
            x.addDoor(255, 0, 23, key);
        }
        x.addException(4, 0, false);
        for (int person = 0; person < 6; person++) {
            x.addPerson();
            int due = 0;
            for (int key = person; key < 8; key += 2) {
                x.giveKey(person, key);
            }
            for (int door = 0; door < 8; door++) {
                due += door != 4 && keys[door] >= person && (keys[door] - person) % 2 == 0 ? 1 : 0;
            }
            Checks.due("36 person " + person, x.openDoorsFor(person), due);
        }
    }

    private static void promise36OpenDoorsFor() {
        MoonlitDoors x = new MoonlitDoors();
        x.addPerson();
        Checks.due("36 no doors", x.openDoorsFor(0), 0);
        x.addDoor(255, 0, 23, 0);
        x.addDoor(255, 0, 23, 1);
        x.addDoor(0, 0, 23, 0);
        x.addDoor(255, 3, 4, 0);
        Checks.due("36 no keys", x.openDoorsFor(0), 0);
        x.giveKey(0, 0);
        Checks.due("36 one", x.openDoorsFor(0), 1);
        x.addException(2, 0, true);
        Checks.due("36 by exception", x.openDoorsFor(0), 2);
        x.advance(3);
        Checks.due("36 by hour", x.openDoorsFor(0), 3);
        x.addException(0, 0, false);
        Checks.due("36 one shut", x.openDoorsFor(0), 2);
        Checks.due("36 is no attempt", x.save(), 0);
    }

    private static void wrongDoors() {
        MoonlitDoors x = new MoonlitDoors();
        x.addDoor(255, 0, 23, 0);
        x.addPerson();
        for (int wrong : new int[] {-1, 1, 8, MIN, MAX}) {
            Checks.fails("32 door", Checks.INDEX, () -> x.isUnlocked(wrong));
            Checks.fails("33 door", Checks.INDEX, () -> x.hoursUntilUnlocked(wrong));
            Checks.fails("34 door", Checks.INDEX, () -> x.hoursUntilUnlockedByDays(wrong));
            Checks.fails("35 door before days", Checks.INDEX, () -> x.unlockedHours(wrong, 0));
            Checks.fails("36 person", Checks.INDEX, () -> x.openDoorsFor(wrong));
        }
    }
}
