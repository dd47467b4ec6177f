/** Promises 1 to 15: a new object, doors, their rules, exceptions of days and the cycle. */
public final class DoorsTest {
    private static final int MIN = Integer.MIN_VALUE, MAX = Integer.MAX_VALUE;

    public static void main(String[] args) {
        promise1NewObject();
        promise2AddDoor();
        promise3SetRule();
        promise4AddException();
        promise4FullAndPast();
        promise5LiftException();
        promise5EveryPosition();
        promise6SetCycle();
        promises7To9Rule();
        promises3And8To11EveryDoor();
        promises10And11Hours();
        promises12And13Exceptions();
        promises14And15Order();
        promises14And15EveryOrder();
        promises14And15Twelve();
        Checks.finish();
    }

    private static void promise1NewObject() {
        MoonlitDoors x = new MoonlitDoors();
        Checks.due("1 doorCount", x.doorCount(), 0);
        Checks.due("1 personCount", x.personCount(), 0);
        Checks.due("1 exceptionCount", x.exceptionCount(), 0);
        Checks.due("1 day", x.day(), 0);
        Checks.due("1 hour", x.hour(), 0);
        Checks.due("1 first cycle", x.setCycle(30), 29);
        MoonlitDoors other = new MoonlitDoors();
        x.addDoor(1, 2, 3, 4);
        Checks.due("1 objects share nothing", other.doorCount(), 0);
    }

    private static void promise2AddDoor() {
        MoonlitDoors x = new MoonlitDoors();
        for (int[] bad : new int[][] {{-1, 0, 0, 0}, {256, 0, 0, 0}, {0, -1, 0, 0}, {0, 24, 0, 0}, {0, 0, -1, 0},
            {0, 0, 24, 0}, {0, 0, 0, -1}, {0, 0, 0, 8}, {MIN, MIN, MIN, MIN}, {MAX, MAX, MAX, MAX}}) {
            Checks.fails("2 wrong rule", Checks.ARGUMENT, () -> x.addDoor(bad[0], bad[1], bad[2], bad[3]));
        }
        Checks.due("2 nothing added", x.doorCount(), 0);
        Checks.due("2 least", x.addDoor(0, 0, 0, 0), 0);
        Checks.due("2 greatest", x.addDoor(255, 23, 23, 7), 1);
        for (int door = 2; door < 8; door++) {
            Checks.due("2 number", x.addDoor(door, door, door, 0), door);
        }
        Checks.fails("2 ninth", Checks.STATE, () -> x.addDoor(0, 0, 0, 0));
        Checks.fails("2 ninth and wrong", Checks.ARGUMENT, () -> x.addDoor(0, 0, 0, 8));
        Checks.due("2 eight doors", x.doorCount(), 8);
        Checks.due("2 phases kept", x.phasesOf(7), 7);
    }

    private static void promise3SetRule() {
        MoonlitDoors x = new MoonlitDoors();
        x.addDoor(3, 4, 5, 6);
        x.addDoor(9, 9, 9, 1);
        Checks.due("3 previous key", x.setRule(0, 255, 23, 22, 7), 6);
        Checks.due("3 previous key again", x.setRule(0, 12, 20, 3, 0), 7);
        Checks.due("3 phases", x.phasesOf(0), 12);
        Checks.due("3 key", x.keyOf(0), 0);
        Checks.due("3 hours", x.hourCount(0), 8);
        Checks.due("3 first hour", x.isHourOf(0, 20), true);
        Checks.due("3 other door", Checks.notice(x, 1), "d1 03 9-9 k1");
        for (int[] bad : new int[][] {{-1, 0, 0, 0}, {256, 0, 0, 0}, {0, -1, 0, 0}, {0, 24, 0, 0}, {0, 0, -1, 0},
            {0, 0, 24, 0}, {0, 0, 0, -1}, {0, 0, 0, 8}}) {
            Checks.fails("3 wrong rule", Checks.ARGUMENT, () -> x.setRule(0, bad[0], bad[1], bad[2], bad[3]));
            Checks.fails("3 wrong door", Checks.INDEX, () -> x.setRule(2, bad[0], bad[1], bad[2], bad[3]));
        }
        Checks.fails("3 door -1", Checks.INDEX, () -> x.setRule(-1, 0, 0, 0, 0));
        Checks.fails("3 door max", Checks.INDEX, () -> x.setRule(MAX, 0, 0, 0, 0));
        Checks.due("3 unchanged", Checks.notice(x, 0), "d0 23 20-3 k0");
    }

    private static void promise4AddException() {
        MoonlitDoors x = new MoonlitDoors();
        x.addDoor(0, 0, 0, 0);
        Checks.due("4 opens", x.addException(0, 0, true), 1);
        Checks.due("4 opens now", x.isUnlocked(0), true);
        Checks.due("4 last day", x.addException(0, 999, false), 2);
        Checks.fails("4 door", Checks.INDEX, () -> x.addException(1, 0, true));
        Checks.fails("4 door before day", Checks.INDEX, () -> x.addException(-1, -1, true));
        Checks.fails("4 day -1", Checks.ARGUMENT, () -> x.addException(0, -1, true));
        Checks.fails("4 day 1000", Checks.ARGUMENT, () -> x.addException(0, 1000, true));
        Checks.fails("4 day min", Checks.ARGUMENT, () -> x.addException(0, MIN, true));
        Checks.fails("4 twice", Checks.STATE, () -> x.addException(0, 0, false));
        Checks.due("4 still opens", x.isUnlocked(0), true);
        Checks.due("4 count", x.exceptionCount(), 2);
    }

    private static void promise4FullAndPast() {
        MoonlitDoors x = new MoonlitDoors();
        x.addDoor(0, 0, 0, 0);
        x.addException(0, 0, true);
        x.advance(24);
        Checks.fails("4 past before twice", Checks.UNSUPPORTED, () -> x.addException(0, 0, true));
        for (int day = 1; day < 12; day++) {
            Checks.due("4 count", x.addException(0, day, day % 2 == 0), day + 1);
        }
        Checks.fails("4 thirteenth", Checks.STATE, () -> x.addException(0, 20, true));
        Checks.fails("4 past before full", Checks.UNSUPPORTED, () -> x.addException(0, 0, true));
        Checks.fails("4 day before full", Checks.ARGUMENT, () -> x.addException(0, 1000, true));
        Checks.due("4 twelve", x.exceptionCount(), 12);
        x.liftException(0, 0);
        Checks.due("4 room again", x.addException(0, 20, true), 12);
        for (int day = 1; day < 12; day++) {
            Checks.due("4 kept of day " + day, x.liftException(0, day), day % 2 == 0);
        }
        Checks.due("4 kept of day 20", x.liftException(0, 20), true);
    }

    private static void promise5LiftException() {
        MoonlitDoors x = new MoonlitDoors();
        x.addDoor(0, 0, 0, 0);
        x.addDoor(0, 0, 0, 0);
        x.addException(0, 3, true);
        x.addException(0, 4, false);
        x.addException(1, 3, false);
        Checks.fails("5 door", Checks.INDEX, () -> x.liftException(2, 3));
        Checks.fails("5 door -1", Checks.INDEX, () -> x.liftException(-1, 3));
        Checks.fails("5 no such day", Checks.ELEMENT, () -> x.liftException(0, 5));
        Checks.fails("5 day min", Checks.ELEMENT, () -> x.liftException(0, MIN));
        Checks.fails("5 day max", Checks.ELEMENT, () -> x.liftException(1, MAX));
        Checks.due("5 opened", x.liftException(0, 3), true);
        Checks.fails("5 again", Checks.ELEMENT, () -> x.liftException(0, 3));
        Checks.due("5 shut", x.liftException(1, 3), false);
        x.advance(240);
        Checks.due("5 passed day", x.liftException(0, 4), false);
        Checks.due("5 none left", x.exceptionCount(), 0);
    }

    /** Lifts one of six, and then all that are left, to see what they do. */
    private static void promise5EveryPosition() {
        for (int lifted = 0; lifted < 6; lifted++) {
            MoonlitDoors x = new MoonlitDoors();
            for (int i = 0; i < 3; i++) {
                x.addDoor(0, 0, 0, 0);
            }
            for (int i = 0; i < 6; i++) {
                x.addException(i % 3, i / 3, i % 4 < 2);
            }
            Checks.due("5 position " + lifted, x.liftException(lifted % 3, lifted / 3), lifted % 4 < 2);
            for (int i = 0; i < 6; i++) {
                Checks.due("5 position " + i + " without " + lifted, x.hasException(i % 3, i / 3), i != lifted);
            }
            for (int i = 5; i >= 0; i--) {
                if (i != lifted) {
                    Checks.due("5 position " + i + " behind " + lifted, x.liftException(i % 3, i / 3), i % 4 < 2);
                }
            }
        }
    }

    private static void promise6SetCycle() {
        MoonlitDoors x = new MoonlitDoors();
        Checks.fails("6 below", Checks.ARGUMENT, () -> x.setCycle(23));
        Checks.fails("6 above", Checks.ARGUMENT, () -> x.setCycle(33));
        Checks.fails("6 zero", Checks.ARGUMENT, () -> x.setCycle(0));
        Checks.due("6 least", x.setCycle(24), 29);
        Checks.due("6 phase by 24", x.phaseOn(3), 1);
        Checks.due("6 greatest", x.setCycle(32), 24);
        Checks.due("6 phase by 32", x.phaseOn(3), 0);
        Checks.due("6 previous", x.setCycle(29), 32);
    }

    private static void promises7To9Rule() {
        MoonlitDoors x = new MoonlitDoors();
        x.addDoor(170, 1, 2, 5);
        x.addDoor(255, 1, 2, 0);
        Checks.due("7 doorCount", x.doorCount(), 2);
        Checks.due("8 phasesOf 0", x.phasesOf(0), 170);
        Checks.due("8 phasesOf 1", x.phasesOf(1), 255);
        Checks.due("9 keyOf 0", x.keyOf(0), 5);
        Checks.due("9 keyOf 1", x.keyOf(1), 0);
        for (int door : new int[] {-1, 2, 8, MIN, MAX}) {
            Checks.fails("8 phasesOf", Checks.INDEX, () -> x.phasesOf(door));
            Checks.fails("9 keyOf", Checks.INDEX, () -> x.keyOf(door));
            Checks.fails("10 isHourOf", Checks.INDEX, () -> x.isHourOf(door, 24));
            Checks.fails("11 hourCount", Checks.INDEX, () -> x.hourCount(door));
            Checks.fails("13 hasException", Checks.INDEX, () -> x.hasException(door, 0));
        }
    }

    /** Each door answers by its own rule, also when the rules of all have been changed. */
    private static void promises3And8To11EveryDoor() {
        MoonlitDoors x = new MoonlitDoors();
        for (int door = 0; door < 8; door++) {
            x.addDoor(1 << door, door, 2 * door + 3, 7 - door);
        }
        for (int door = 0; door < 8; door++) {
            Checks.due("8 door " + door, x.phasesOf(door), 1 << door);
            Checks.due("9 door " + door, x.keyOf(door), 7 - door);
            Checks.due("11 door " + door, x.hourCount(door), door + 4);
            for (int hour = 0; hour < 24; hour++) {
                Checks.due("10 door " + door + " at " + hour, x.isHourOf(door, hour), hour >= door && hour <= 2 * door + 3);
            }
        }
        for (int door = 0; door < 8; door++) {
            Checks.due("3 key of door " + door, x.setRule(door, 255 - (1 << door), 23 - door, door, door / 2), 7 - door);
        }
        for (int door = 0; door < 8; door++) {
            Checks.due("3 phases of door " + door, x.phasesOf(door), 255 - (1 << door));
            Checks.due("3 hours of door " + door, x.hourCount(door), 2 * door + 2);
            Checks.due("3 last hour of door " + door, x.isHourOf(door, door), true);
            Checks.due("3 behind the last hour of door " + door, x.isHourOf(door, door + 1), false);
            Checks.due("3 key again of door " + door, x.setRule(door, 0, 0, 0, 0), door / 2);
        }
    }

    private static void promises10And11Hours() {
        for (int first = 0; first < 24; first++) {
            for (int last = 0; last < 24; last++) {
                MoonlitDoors x = new MoonlitDoors();
                x.addDoor(255, first, last, 0);
                boolean[] due = new boolean[24];
                int count = 1;
                int hour = first;
                due[hour] = true;
                while (hour != last) {
                    hour = hour == 23 ? 0 : hour + 1;
                    due[hour] = true;
                    count++;
                }
                Checks.due("11 hours of " + first + "-" + last, x.hourCount(0), count);
                for (int asked = 0; asked < 24; asked++) {
                    Checks.due("10 " + asked + " in " + first + "-" + last, x.isHourOf(0, asked), due[asked]);
                }
            }
        }
        MoonlitDoors x = new MoonlitDoors();
        x.addDoor(0, 22, 5, 0);
        x.addException(0, 0, false);
        Checks.due("10 by the rule alone", x.isHourOf(0, 23), true);
        Checks.fails("10 hour -1", Checks.ARGUMENT, () -> x.isHourOf(0, -1));
        Checks.fails("10 hour 24", Checks.ARGUMENT, () -> x.isHourOf(0, 24));
        Checks.fails("10 hour max", Checks.ARGUMENT, () -> x.isHourOf(0, MAX));
    }

    private static void promises12And13Exceptions() {
        MoonlitDoors x = new MoonlitDoors();
        x.addDoor(0, 0, 0, 0);
        x.addDoor(0, 0, 0, 0);
        x.addException(1, 7, false);
        Checks.due("12 one", x.exceptionCount(), 1);
        Checks.due("13 has", x.hasException(1, 7), true);
        Checks.due("13 other door", x.hasException(0, 7), false);
        Checks.due("13 other day", x.hasException(1, 6), false);
        Checks.due("13 day min", x.hasException(1, MIN), false);
        Checks.due("13 day max", x.hasException(1, MAX), false);
        Checks.due("13 day 0", x.hasException(0, 0), false);
        x.advance(240);
        Checks.due("12 stays when passed", x.exceptionCount(), 1);
        Checks.due("13 stays when passed", x.hasException(1, 7), true);
        x.liftException(1, 7);
        Checks.due("12 lifted", x.exceptionCount(), 0);
        Checks.due("13 lifted", x.hasException(1, 7), false);
    }

    private static void promises14And15Order() {
        MoonlitDoors x = new MoonlitDoors();
        for (int door = 0; door < 3; door++) {
            x.addDoor(0, 0, 0, 0);
        }
        int[][] added = {{2, 5}, {0, 9}, {1, 5}, {2, 0}, {0, 5}, {1, 999}, {0, 0}, {1, 9}, {2, 9}};
        for (int[] one : added) {
            x.addException(one[0], one[1], true);
        }
        order(x, new int[][] {{0, 0}, {2, 0}, {0, 5}, {1, 5}, {2, 5}, {0, 9}, {1, 9}, {2, 9}, {1, 999}});
        x.liftException(1, 5);
        x.liftException(0, 0);
        order(x, new int[][] {{2, 0}, {0, 5}, {2, 5}, {0, 9}, {1, 9}, {2, 9}, {1, 999}});
    }

    /** Four exceptions, added in each order that there is. */
    private static void promises14And15EveryOrder() {
        int[][] due = {{1, 4}, {2, 4}, {4, 4}, {0, 5}};
        for (int number = 0; number < 256; number++) {
            int[] places = {number & 3, number >> 2 & 3, number >> 4 & 3, number >> 6};
            int seen = 1 << places[0] | 1 << places[1] | 1 << places[2] | 1 << places[3];
            if (seen == 15) {
                MoonlitDoors x = new MoonlitDoors();
                for (int door = 0; door < 5; door++) {
                    x.addDoor(0, 0, 0, 0);
                }
                for (int place : places) {
                    x.addException(due[place][0], due[place][1], place % 2 == 1);
                }
                order(x, due);
                for (int place = 0; place < 4; place++) {
                    Checks.due("14 what it does", x.liftException(due[place][0], due[place][1]), place % 2 == 1);
                }
            }
        }
    }

    private static void promises14And15Twelve() {
        MoonlitDoors x = new MoonlitDoors();
        int[][] due = new int[12][];
        for (int i = 0; i < 12; i++) {
            if (i < 8) {
                x.addDoor(0, 0, 0, 0);
            }
            due[i] = new int[] {i % 5 + 3, i / 5};
        }
        for (int i = 0; i < 12; i++) {
            int[] one = due[i * 7 % 12];
            Checks.due("4 count", x.addException(one[0], one[1], i % 2 == 0), i + 1);
        }
        order(x, due);
    }

    private static void order(MoonlitDoors x, int[][] due) {
        for (int i = 0; i < due.length; i++) {
            Checks.due("14 door at " + i, x.exceptionDoor(i), due[i][0]);
            Checks.due("15 day at " + i, x.exceptionDay(i), due[i][1]);
        }
        for (int position : new int[] {-1, due.length, 12, MIN, MAX}) {
            Checks.fails("14 position " + position, Checks.ELEMENT, () -> x.exceptionDoor(position));
            Checks.fails("15 position " + position, Checks.ELEMENT, () -> x.exceptionDay(position));
        }
    }
}
