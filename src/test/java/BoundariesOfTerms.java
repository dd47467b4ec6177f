/** The boundary cases that the document's Terms name: time, the moon, doors, persons, attempts and audits. */
final class BoundariesOfTerms {
    private BoundariesOfTerms() {
    }

    static void test() {
        sentence("An object is used for at most 512 calls after it has been made", BoundariesOfTerms::lastCall);
        sentence("All integer divisions are rounded down.", BoundariesOfTerms::roundedDown);
        sentence("The time is a number of hours, which is 0 at first.", BoundariesOfTerms::timeAtFirst);
        sentence("The day is the time divided by 24, and the hour is the time modulo 24.", BoundariesOfTerms::midnights);
        sentence("The moon has a cycle of 24 to 32 days, at first 29.", BoundariesOfTerms::cycles);
        sentence("The phase of a day is its day number modulo the cycle, times 8, divided by the cycle: a number from 0 to 7.",
                BoundariesOfTerms::phases);
        sentence("At most 8 doors exist, numbered from 0 in the order in which they were added.", BoundariesOfTerms::eightDoors);
        sentence("The rule of a door consists of a set of phases, a first and a last hour, and a key from 0 to 7.",
                BoundariesOfTerms::extremeRules);
        sentence("bit k stands for the phase k.", BoundariesOfTerms::bits);
        sentence("The hours of a door are those from its first to its last hour, both included, passing from 23 to 0"
                + " if the first hour is greater than the last one.", BoundariesOfTerms::hoursOfDoors);
        sentence("A door can have an exception for a day, which opens or shuts the door for this whole day.",
                BoundariesOfTerms::wholeDays);
        sentence("At most 12 exceptions exist.", BoundariesOfTerms::twelveExceptions);
        sentence("For hours behind midnight, the phase of the new day counts.", BoundariesOfTerms::behindMidnight);
        sentence("Exceptions of days that have passed stay until they are lifted.", BoundariesOfTerms::passedExceptions);
        sentence("The log keeps the latest attempts, however long ago they were.", BoundariesOfTerms::oldLog);
        sentence("A door is unlocked at a time if there is an exception that opens it for the day of this time, or if there is"
                + " no exception for it on this day, the phase of the day is in its set of phases, and the hour is one of its hours.",
                BoundariesOfTerms::unlocked);
        sentence("At most 6 persons exist, numbered from 0.", BoundariesOfTerms::sixPersons);
        sentence("Each has a ring of keys, which is empty at first; a ring contains each key at most once.",
                BoundariesOfTerms::rings);
        sentence("the attempt is refused for the first of the following reasons that applies", BoundariesOfTerms::reasons);
        sentence("Otherwise the person enters.", BoundariesOfTerms::enters);
        sentence("Every attempt is counted for its door and its day.", BoundariesOfTerms::counted);
        sentence("The numbers of entries and of refusals are kept for the present day and the 7 days before it;"
                + " older ones are forgotten.", BoundariesOfTerms::forgotten);
        sentence("The log contains the latest 10 attempts.", BoundariesOfTerms::fullLog);
        sentence("The constants: `ENTERED = 0, SHUT = 1, NO_KEY = 2, WRONG_PHASE = 3, WRONG_HOUR = 4`",
                BoundariesOfTerms::constants);
    }

    private static void sentence(String words, Runnable body) {
        Sentences.test(Document.TERMS, words, body);
    }

    private static void lastCall() {
        MoonlitDoors x = new MoonlitDoors();
        x.addDoor(255, 0, 23, 0);
        for (int call = 2; call <= 511; call++) {
            Checks.due("day after call " + call, x.advance(240), (call - 1) * 10);
        }
        Checks.due("the call 512", x.day(), 5100);
    }

    private static void roundedDown() {
        MoonlitDoors x = new MoonlitDoors();
        Checks.due("24 by 29", x.phaseOn(3), 0);
        Checks.due("32 by 29", x.phaseOn(4), 1);
        Checks.due("56 by 29", x.phaseOn(7), 1);
        Checks.due("224 by 29", x.phaseOn(28), 7);
        Checks.due("23 by 24", x.advance(23), 0);
        Checks.due("24 by 24", x.advance(1), 1);
        Checks.due("47 by 24", x.advance(23), 1);
    }

    private static void timeAtFirst() {
        MoonlitDoors x = new MoonlitDoors();
        Checks.due("day", x.day(), 0);
        Checks.due("hour", x.hour(), 0);
        Checks.due("day an hour later", x.advance(1), 0);
        Checks.due("hour an hour later", x.hour(), 1);
    }

    private static void midnights() {
        MoonlitDoors x = new MoonlitDoors();
        for (int time = 0; time < 74; time++) {
            Checks.due("day of time " + time, x.day(), time < 24 ? 0 : time < 48 ? 1 : time < 72 ? 2 : 3);
            Checks.due("hour of time " + time, x.hour(), time < 24 ? time : time < 48 ? time - 24 : time < 72 ? time - 48 : time - 72);
            x.advance(1);
        }
    }

    private static void cycles() {
        MoonlitDoors x = new MoonlitDoors();
        Checks.due("first day of the second cycle", x.phaseOn(29), 0);
        Checks.due("last day of the first cycle", x.phaseOn(28), 7);
        Boundary.refusedOutside(24, 32, x, Checks.ARGUMENT, MoonlitDoors::setCycle);
        Checks.due("at first", x.setCycle(24), 29);
        for (int days = 25; days <= 32; days++) {
            Checks.due("cycle before " + days, x.setCycle(days), days - 1);
        }
    }

    private static void phases() {
        for (int cycle = 24; cycle <= 32; cycle++) {
            MoonlitDoors x = new MoonlitDoors();
            x.setCycle(cycle);
            for (int phase = 0; phase < 8; phase++) {
                int first = (phase * cycle + 7) / 8;
                int last = ((phase + 1) * cycle + 7) / 8 - 1;
                for (int round = 0; round < 4; round++) {
                    String place = "phase " + phase + " of " + cycle + ", round " + round;
                    Checks.due("first day of " + place, x.phaseOn(round * cycle + first), phase);
                    Checks.due("last day of " + place, x.phaseOn(round * cycle + last), phase);
                }
            }
        }
    }

    private static void eightDoors() {
        MoonlitDoors x = new MoonlitDoors();
        for (int door = 0; door < 8; door++) {
            Checks.due("door", x.addDoor(door + 1, 0, 0, door), door);
        }
        for (int door = 0; door < 8; door++) {
            Checks.due("phases of door " + door, x.phasesOf(door), door + 1);
            Checks.due("key of door " + door, x.keyOf(door), door);
        }
        Boundary.refused("a ninth door", x, Checks.STATE, () -> x.addDoor(0, 0, 0, 0));
        x.undo();
        Checks.due("the eighth door anew", x.addDoor(9, 0, 0, 0), 7);
        Boundary.refused("a ninth door again", x, Checks.STATE, () -> x.addDoor(0, 0, 0, 0));
    }

    private static void extremeRules() {
        MoonlitDoors x = new MoonlitDoors();
        x.addDoor(0, 0, 0, 0);
        x.addDoor(255, 23, 23, 7);
        Checks.due("least", Checks.notice(x, 0), "d0 - 0-0 k0");
        Checks.due("greatest", Checks.notice(x, 1), "d1 01234567 23-23 k7");
    }

    private static void bits() {
        MoonlitDoors x = new MoonlitDoors();
        x.setCycle(24);
        for (int phase = 0; phase < 8; phase++) {
            x.addDoor(1 << phase, 0, 23, 0);
        }
        for (int day = 0; day <= 24; day++) {
            for (int door = 0; door < 8; door++) {
                Checks.due("phase " + door + " on day " + day, x.isUnlocked(door), day % 24 / 3 == door);
            }
            x.advance(24);
        }
    }

    private static void hoursOfDoors() {
        int[][] rules = {{0, 0}, {23, 23}, {0, 23}, {23, 0}, {22, 5}, {5, 22}, {12, 11}, {11, 12}, {1, 0}, {0, 1}, {23, 22}};
        for (int[] rule : rules) {
            boolean[] due = new boolean[24];
            for (int hour = rule[0]; hour != rule[1]; hour = hour == 23 ? 0 : hour + 1) {
                due[hour] = true;
            }
            due[rule[1]] = true;
            MoonlitDoors x = new MoonlitDoors();
            x.addDoor(255, rule[0], rule[1], 0);
            for (int time = 0; time < 48; time++) {
                String place = "hour " + time % 24 + " of " + rule[0] + "-" + rule[1];
                Checks.due(place, x.isHourOf(0, time % 24), due[time % 24]);
                Checks.due("unlocked at " + place, x.isUnlocked(0), due[time % 24]);
                x.advance(1);
            }
        }
    }

    private static void wholeDays() {
        MoonlitDoors x = new MoonlitDoors();
        x.addDoor(0, 5, 6, 0);
        x.addDoor(255, 0, 23, 0);
        x.addException(0, 1, true);
        x.addException(1, 1, false);
        for (int time = 0; time < 72; time++) {
            boolean thatDay = time >= 24 && time < 48;
            Checks.due("opened at time " + time, x.isUnlocked(0), thatDay);
            Checks.due("shut at time " + time, x.isUnlocked(1), !thatDay);
            x.advance(1);
        }
    }

    private static void twelveExceptions() {
        MoonlitDoors x = Boundary.world(8, 0);
        for (int made = 1; made <= 12; made++) {
            Checks.due("exceptions", x.addException(made % 7, made / 7, made % 2 == 0), made);
        }
        Boundary.refused("a thirteenth of a door without any", x, Checks.STATE, () -> x.addException(7, 0, true));
        Boundary.refused("a thirteenth of a day without any", x, Checks.STATE, () -> x.addException(0, 999, true));
        x.liftException(3, 0);
        Checks.due("a twelfth again", x.addException(7, 0, true), 12);
        Boundary.refused("a thirteenth again", x, Checks.STATE, () -> x.addException(3, 0, true));
        x.undo();
        Checks.due("a twelfth after undo", x.addException(3, 0, true), 12);
    }

    private static void behindMidnight() {
        MoonlitDoors x = new MoonlitDoors();
        x.setCycle(24);
        x.addDoor(1 << 1, 22, 5, 0);
        x.addPerson();
        x.giveKey(0, 0);
        Boundary.passTo(x, 2, 22);
        Checks.due("the evening before the phase", x.wouldEnter(0, 0), MoonlitDoors.WRONG_PHASE);
        Checks.due("hours until its midnight", x.hoursUntilUnlocked(0), 2);
        Checks.due("hours until its midnight by days", x.hoursUntilUnlockedByDays(0), 2);
        Boundary.passTo(x, 3, 0);
        Checks.due("the night of the phase's first day", x.isUnlocked(0), true);
        Boundary.passTo(x, 3, 5);
        Checks.due("its last hour", x.wouldEnter(0, 0), MoonlitDoors.ENTERED);
        Boundary.passTo(x, 3, 6);
        Checks.due("behind its last hour", x.wouldEnter(0, 0), MoonlitDoors.WRONG_HOUR);
        Boundary.passTo(x, 5, 23);
        Checks.due("the evening of the phase's last day", x.wouldEnter(0, 0), MoonlitDoors.ENTERED);
        Boundary.passTo(x, 6, 0);
        Checks.due("the night behind the phase", x.isUnlocked(0), false);
        Checks.due("the attempt behind the phase", x.wouldEnter(0, 0), MoonlitDoors.WRONG_PHASE);
    }

    private static void passedExceptions() {
        MoonlitDoors x = Boundary.world(1, 0);
        for (int day = 0; day < 12; day++) {
            x.addException(0, day, day % 2 == 0);
        }
        Boundary.passTo(x, 1000, 0);
        Checks.due("all stay", x.exceptionCount(), 12);
        for (int day = 0; day < 12; day++) {
            Checks.due("day by position", x.exceptionDay(day), day);
            Checks.due("day " + day, x.hasException(0, day), true);
        }
        for (int day = 0; day < 12; day++) {
            Checks.due("lifted day " + day, x.liftException(0, day), day % 2 == 0);
            Checks.due("left behind day " + day, x.exceptionCount(), 11 - day);
        }
        MoonlitDoors full = Boundary.world(1, 0);
        for (int day = 0; day < 12; day++) {
            full.addException(0, day, true);
        }
        Boundary.passTo(full, 12, 0);
        Boundary.refused("a thirteenth when all have passed", full, Checks.STATE, () -> full.addException(0, 12, true));
    }

    private static void oldLog() {
        MoonlitDoors x = Boundary.world(2, 2);
        x.giveKey(1, 1);
        x.tryDoor(0, 0);
        x.tryDoor(1, 1);
        Boundary.passTo(x, 4000, 0);
        Checks.due("latest", x.loggedPerson(0) * 100 + x.loggedDoor(0) * 10 + x.loggedResult(0), 110);
        Checks.due("first", x.loggedPerson(1) * 100 + x.loggedDoor(1) * 10 + x.loggedResult(1), 2);
        Checks.fails("no third", Checks.ELEMENT, () -> x.loggedPerson(2));
    }

    /** Doors for each rule: bit 0 of the number tells whether the phase fits, bit 1 whether the hour fits. */
    private static MoonlitDoors rules(int exception) {
        MoonlitDoors x = new MoonlitDoors();
        for (int rule = 0; rule < 4; rule++) {
            int first = (rule & 2) == 2 ? 0 : 1;
            x.addDoor((rule & 1) == 1 ? 1 : 254, first, first, 0);
            if (exception != 0) {
                x.addException(rule, 0, exception == 1);
            }
        }
        x.addPerson();
        return x;
    }

    private static void unlocked() {
        for (int exception = 0; exception < 3; exception++) {
            MoonlitDoors x = rules(exception);
            for (int rule = 0; rule < 4; rule++) {
                Checks.due("exception " + exception + ", rule " + rule, x.isUnlocked(rule),
                        exception == 1 || exception == 0 && rule == 3);
            }
        }
        MoonlitDoors x = Boundary.world(2, 0);
        x.addException(0, 0, false);
        x.addException(0, 1, true);
        x.addException(1, 1, false);
        Checks.due("shut today alone", x.isUnlocked(0), false);
        Checks.due("another door", x.isUnlocked(1), true);
    }

    private static void sixPersons() {
        MoonlitDoors x = new MoonlitDoors();
        for (int person = 0; person < 6; person++) {
            Checks.due("person", x.addPerson(), person);
        }
        Boundary.refused("a seventh person", x, Checks.STATE, x::addPerson);
        x.undo();
        Checks.due("the sixth person anew", x.addPerson(), 5);
        Boundary.refused("a seventh person again", x, Checks.STATE, x::addPerson);
    }

    private static void rings() {
        MoonlitDoors x = Boundary.world(0, 6);
        for (int person = 0; person < 6; person++) {
            int one = person;
            Checks.fails("no key at first", Checks.ELEMENT, () -> x.keyAt(one, 0));
            Checks.due("one key", x.giveKey(one, 4), 1);
            Boundary.refused("the same key", x, Checks.STATE, () -> x.giveKey(one, 4));
            Checks.due("none left", x.takeKey(one, 4), 0);
            Boundary.refused("taken twice", x, Checks.ELEMENT, () -> x.takeKey(one, 4));
            Checks.due("given again", x.giveKey(one, 4), 1);
        }
    }

    private static void reasons() {
        for (int exception = 0; exception < 3; exception++) {
            for (int keys = 0; keys < 2; keys++) {
                MoonlitDoors x = rules(exception);
                if (keys == 1) {
                    x.giveKey(0, 0);
                }
                for (int rule = 0; rule < 4; rule++) {
                    int due = exception == 2 ? MoonlitDoors.SHUT : keys == 0 ? MoonlitDoors.NO_KEY
                            : exception == 1 || rule == 3 ? MoonlitDoors.ENTERED
                            : (rule & 1) == 0 ? MoonlitDoors.WRONG_PHASE : MoonlitDoors.WRONG_HOUR;
                    String place = "exception " + exception + ", keys " + keys + ", rule " + rule;
                    Checks.due("would enter by " + place, x.wouldEnter(0, rule), due);
                    Checks.due("tries by " + place, x.tryDoor(0, rule), due);
                    Checks.due("logged by " + place, x.loggedResult(0), due);
                }
            }
        }
    }

    private static void enters() {
        MoonlitDoors x = rules(0);
        Checks.due("refused without the key", x.tryDoor(0, 3), MoonlitDoors.NO_KEY);
        Checks.due("no entry", x.entriesOf(0), 0);
        x.giveKey(0, 0);
        Checks.due("enters", x.tryDoor(0, 3), MoonlitDoors.ENTERED);
        Checks.due("an entry", x.entriesOf(0), 1);
        Checks.due("on the day", x.entriesOn(3, 0), 1);
    }

    private static void counted() {
        MoonlitDoors x = Boundary.world(8, 1);
        Boundary.give(x, 0, 0, 2, 4, 6);
        for (int day = 0; day < 8; day++) {
            for (int door = 0; door < 8; door++) {
                for (int i = 0; i < attemptsAt(door, day); i++) {
                    x.tryDoor(0, door);
                }
            }
            x.advance(day < 7 ? 24 : 23);
        }
        for (int door = 0; door < 8; door++) {
            boolean own = door % 2 == 0;
            for (int ago = 0; ago < 8; ago++) {
                int due = attemptsAt(door, 7 - ago);
                Checks.due("entries at " + door + " ago " + ago, x.entriesOn(door, ago), own ? due : 0);
                Checks.due("refusals at " + door + " ago " + ago, x.refusalsOn(door, ago), own ? 0 : due);
            }
        }
    }

    /** Another number for each neighbour of a day and of a door. */
    private static int attemptsAt(int door, int day) {
        return (door * 5 + day * 3) % 7;
    }

    private static void forgotten() {
        for (int hours : new int[] {24, 168, 191, 192, 215, 216, 384, 1536}) {
            MoonlitDoors x = everyDoorTried();
            Boundary.pass(x, hours);
            for (int door = 0; door < 8; door++) {
                keptDays(x, door, hours);
            }
            Checks.due("no result is forgotten", x.attemptsWith(0) + x.attemptsWith(2), 16);
        }
    }

    /** On day 0 the person 0 has entered each door, and the person 1 has been refused at each. */
    private static MoonlitDoors everyDoorTried() {
        MoonlitDoors x = Boundary.world(8, 2);
        Boundary.give(x, 0, 0, 1, 2, 3, 4, 5, 6, 7);
        for (int door = 0; door < 8; door++) {
            x.tryDoor(0, door);
            x.tryDoor(1, door);
        }
        return x;
    }

    private static void keptDays(MoonlitDoors x, int door, int hours) {
        for (int ago = 0; ago < 8; ago++) {
            int due = ago == hours / 24 ? 1 : 0;
            String place = "at " + door + " after " + hours + " ago " + ago;
            Checks.due("entries " + place, x.entriesOn(door, ago), due);
            Checks.due("refusals " + place, x.refusalsOn(door, ago), due);
        }
    }

    private static void fullLog() {
        MoonlitDoors x = Boundary.world(8, 2);
        for (int door = 0; door < 3; door++) {
            x.addException(door, 0, false);
        }
        for (int made = 1; made <= 21; made++) {
            x.tryDoor(made % 2, made % 8);
            int held = Math.min(made, 10);
            for (int recency = 0; recency < held; recency++) {
                Checks.due("door " + recency + " of " + made, x.loggedDoor(recency), (made - recency) % 8);
                Checks.due("person " + recency + " of " + made, x.loggedPerson(recency), (made - recency) % 2);
                Checks.due("result " + recency + " of " + made, x.loggedResult(recency),
                        (made - recency) % 8 < 3 ? MoonlitDoors.SHUT : MoonlitDoors.NO_KEY);
            }
            Checks.fails("behind the last of " + made, Checks.ELEMENT, () -> x.loggedDoor(held));
        }
    }

    private static void constants() {
        Checks.due("ENTERED", MoonlitDoors.ENTERED, 0);
        Checks.due("SHUT", MoonlitDoors.SHUT, 1);
        Checks.due("NO_KEY", MoonlitDoors.NO_KEY, 2);
        Checks.due("WRONG_PHASE", MoonlitDoors.WRONG_PHASE, 3);
        Checks.due("WRONG_HOUR", MoonlitDoors.WRONG_HOUR, 4);
    }
}
