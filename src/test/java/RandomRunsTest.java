import java.util.Random;

/** All promises: long runs of calls by a fixed seed, answered by the class and by the reference. */
public final class RandomRunsTest {
    private static final int RUNS = 1500;
    private static final int CALLS = 512;
    private static final int[] WILD = {Integer.MIN_VALUE, -1000, -25, -1, 8, 24, 32, 40, 256, 1000, 10000, Integer.MAX_VALUE};
    private static final String[] WORDS = {"give ", "take ", "try ", "open ", "shut ", "lift ", "moon ", "wait "};

    private final Random random;
    private final String run;
    private final int wildness;
    private final int haste;
    private final int doorsAsked;
    private final int personsAsked;
    private MoonlitDoors doors = new MoonlitDoors();
    private Reference due = new Reference();
    private int calls = 0;

    private RandomRunsTest(int seed) {
        random = new Random(seed);
        run = "run " + seed;
        wildness = seed % 4 == 0 ? 5 : 40;
        haste = seed % 3;
        doorsAsked = seed % 2 == 0 ? 9 : 5;
        personsAsked = seed % 2 == 0 ? 7 : 4;
    }

    public static void main(String[] args) {
        for (int seed = 1; seed <= RUNS; seed++) {
            new RandomRunsTest(seed).play();
        }
        Checks.finish();
    }

    private void play() {
        for (int i = 0; i < doorsAsked - 2; i++) {
            addDoor();
        }
        for (int i = 0; i < personsAsked - 1; i++) {
            same("addPerson", doors::addPerson, due::addPerson);
        }
        while (calls < CALLS) {
            if (random.nextInt(5) < 2) {
                change(random.nextInt(14));
            } else {
                ask(random.nextInt(36));
            }
        }
    }

    private void same(String what, Checks.Call call, Checks.Call wanted) {
        calls++;
        Object want = Checks.outcome(wanted);
        Checks.due(run + " call " + calls + " " + what, Checks.outcome(call), want);
    }

    /** Mostly a number below the bound, now and then one that is out of range. */
    private int below(int bound) {
        return random.nextInt(wildness) == 0 ? WILD[random.nextInt(WILD.length)] : random.nextInt(bound);
    }

    private int nearDay() {
        int days = haste == 0 ? 3 : 20;
        return random.nextInt(wildness) == 0 ? WILD[random.nextInt(WILD.length)] : due.day() + random.nextInt(days) - 1;
    }

    private int phases() {
        return random.nextInt(3) == 0 ? below(256) : random.nextInt(2) == 0 ? 255 : 1 << random.nextInt(8);
    }

    private int hours() {
        return haste == 0 ? 1 + random.nextInt(8) : haste == 1 ? 1 + random.nextInt(60) : 1 + random.nextInt(240);
    }

    private void addDoor() {
        int p = phases(), a = below(24), b = below(24), k = below(4);
        same("addDoor", () -> doors.addDoor(p, a, b, k), () -> due.addDoor(p, a, b, k));
    }

    private void change(int kind) {
        int person = below(personsAsked), door = below(doorsAsked), key = below(random.nextInt(2) == 0 ? 4 : 8), day = nearDay();
        switch (kind) {
            case 0 -> addDoor();
            case 1 -> {
                int p = phases(), a = below(24), b = below(24);
                same("setRule", () -> doors.setRule(door, p, a, b, key), () -> due.setRule(door, p, a, b, key));
            }
            case 2 -> {
                boolean opens = random.nextBoolean();
                same("addException", () -> doors.addException(door, day, opens), () -> due.addException(door, day, opens));
            }
            case 3 -> lift(day);
            case 4 -> {
                int cycle = random.nextInt(4) == 0 ? below(40) : 24 + random.nextInt(9);
                same("setCycle", () -> doors.setCycle(cycle), () -> due.setCycle(cycle));
            }
            case 5 -> {
                if (random.nextInt(4) == 0) {
                    same("addPerson", doors::addPerson, due::addPerson);
                }
            }
            case 6 -> same("giveKey", () -> doors.giveKey(person, key), () -> due.giveKey(person, key));
            case 7 -> same("takeKey", () -> doors.takeKey(person, key), () -> due.takeKey(person, key));
            case 8 -> {
                int hours = random.nextInt(wildness) == 0 ? below(260) : hours();
                same("advance", () -> doors.advance(hours), () -> due.advance(hours));
            }
            case 9 -> back();
            case 10, 11 -> program();
            default -> same("tryDoor", () -> doors.tryDoor(person, door), () -> due.tryDoor(person, door));
        }
    }

    private void lift(int day) {
        boolean known = due.exceptionCount() > 0 && random.nextInt(3) > 0;
        int position = known ? random.nextInt(due.exceptionCount()) : 0;
        int door = known ? due.exceptionDoor(position) : below(doorsAsked);
        int then = known ? due.exceptionDay(position) : day;
        same("liftException", () -> doors.liftException(door, then), () -> due.liftException(door, then));
    }

    private void back() {
        int kind = random.nextInt(12);
        if (kind == 0) {
            same("restore", doors::restore, due::restore);
        } else if (kind < 3) {
            same("save", doors::save, due::save);
        } else {
            int steps = kind == 3 ? 9 : 1 + random.nextInt(2);
            for (int i = 0; i < steps; i++) {
                same("undo", doors::undo, due::undo);
            }
        }
    }

    private void program() {
        StringBuilder text = new StringBuilder();
        int commands = random.nextInt(5) == 0 ? 12 : 1 + random.nextInt(3);
        for (int i = 0; i < commands; i++) {
            text.append(i == 0 ? "" : ";").append(command());
        }
        int flaw = random.nextInt(8);
        if (flaw == 0) {
            text.setLength(random.nextInt(text.length() + 1));
        } else if (flaw == 1) {
            text.setCharAt(random.nextInt(text.length()), "givetakryopnshulmw 0919;~".charAt(random.nextInt(25)));
        } else if (flaw == 2) {
            text.insert(random.nextInt(text.length() + 1), "ta 0;~7".charAt(random.nextInt(7)));
        } else if (flaw == 3) {
            text.setLength(Math.min(text.length(), 55 + random.nextInt(6)));
        }
        for (int i = 0; i < text.length(); i++) {
            char sign = text.charAt(i);
            same("type", () -> doors.type(sign), () -> due.type(sign));
        }
        same("execute of " + text, doors::execute, due::execute);
    }

    private String command() {
        int verb = random.nextInt(WORDS.length);
        int one = random.nextInt(wildness) == 0 ? random.nextInt(10) : random.nextInt(3);
        String number = number(verb);
        if (verb < 3) {
            return WORDS[verb] + one + random.nextInt(random.nextInt(wildness) == 0 ? 10 : verb < 2 ? 8 : 3);
        }
        return WORDS[verb] + (verb < 6 ? one + " " : "") + number;
    }

    private String number(int verb) {
        int value = verb == 6 ? 24 + random.nextInt(9) : verb == 7 ? hours() : Math.floorMod(nearDay(), 1000);
        if (verb > 5 && random.nextInt(wildness) == 0) {
            value = random.nextInt(1000);
        }
        return random.nextInt(4) == 0 ? String.format("%03d", value) : Integer.toString(value);
    }

    private void ask(int kind) {
        int person = below(personsAsked), door = below(doorsAsked), eight = below(9), position = below(12);
        switch (kind) {
            case 0 -> same("doorCount", doors::doorCount, due::doorCount);
            case 1 -> same("phasesOf", () -> doors.phasesOf(door), () -> due.phasesOf(door));
            case 2 -> same("keyOf", () -> doors.keyOf(door), () -> due.keyOf(door));
            case 3 -> {
                int hour = below(25);
                same("isHourOf", () -> doors.isHourOf(door, hour), () -> due.isHourOf(door, hour));
            }
            case 4 -> same("hourCount", () -> doors.hourCount(door), () -> due.hourCount(door));
            case 5 -> same("exceptionCount", doors::exceptionCount, due::exceptionCount);
            case 6 -> {
                int day = nearDay();
                same("hasException", () -> doors.hasException(door, day), () -> due.hasException(door, day));
            }
            case 7 -> same("exceptionDoor", () -> doors.exceptionDoor(position), () -> due.exceptionDoor(position));
            case 8 -> same("exceptionDay", () -> doors.exceptionDay(position), () -> due.exceptionDay(position));
            case 9 -> same("wouldEnter", () -> doors.wouldEnter(person, door), () -> due.wouldEnter(person, door));
            case 10 -> same("personCount", doors::personCount, due::personCount);
            case 11 -> same("hasKey", () -> doors.hasKey(person, eight), () -> due.hasKey(person, eight));
            case 12 -> same("keyAt", () -> doors.keyAt(person, eight), () -> due.keyAt(person, eight));
            case 13 -> same("doorsOfRing", () -> doors.doorsOfRing(person), () -> due.doorsOfRing(person));
            case 14 -> same("personByEntries", () -> doors.personByEntries(person), () -> due.personByEntries(person));
            case 15 -> same("entriesOf", () -> doors.entriesOf(person), () -> due.entriesOf(person));
            case 16 -> same("day", doors::day, due::day);
            case 17 -> same("hour", doors::hour, due::hour);
            case 18 -> {
                int day = below(10001);
                same("phaseOn", () -> doors.phaseOn(day), () -> due.phaseOn(day));
            }
            case 19 -> same("daysUntilPhase", () -> doors.daysUntilPhase(eight), () -> due.daysUntilPhase(eight));
            case 20 -> same("isUnlocked", () -> doors.isUnlocked(door), () -> due.isUnlocked(door));
            default -> askOn(kind, door, person, position);
        }
    }

    private void askOn(int kind, int door, int person, int position) {
        int ago = below(9);
        switch (kind) {
            case 21 -> {
                same("hoursUntilUnlocked", () -> doors.hoursUntilUnlocked(door), () -> due.hoursUntilUnlocked(door));
                same("hoursUntilUnlockedByDays", () -> doors.hoursUntilUnlockedByDays(door), () -> due.hoursUntilUnlocked(door));
            }
            case 22 -> {
                int days = below(101);
                same("unlockedHours", () -> doors.unlockedHours(door, days), () -> due.unlockedHours(door, days));
            }
            case 23 -> same("openDoorsFor", () -> doors.openDoorsFor(person), () -> due.openDoorsFor(person));
            case 24, 25 -> same("entriesOn", () -> doors.entriesOn(door, ago), () -> due.countOn(door, ago, true));
            case 26, 27 -> same("refusalsOn", () -> doors.refusalsOn(door, ago), () -> due.countOn(door, ago, false));
            case 28 -> same("loggedPerson", () -> doors.loggedPerson(position), () -> due.loggedPerson(position));
            case 29 -> same("loggedDoor", () -> doors.loggedDoor(position), () -> due.loggedDoor(position));
            case 30 -> same("loggedResult", () -> doors.loggedResult(position), () -> due.loggedResult(position));
            case 31 -> same("attemptsWith", () -> doors.attemptsWith(person), () -> due.attemptsWith(person));
            case 32 -> same("entryShare", doors::entryShare, due::entryShare);
            case 33 -> notice(door);
            case 34 -> same("errorPosition", doors::errorPosition, due::errorPosition);
            default -> same("failedCommand", doors::failedCommand, due::failedCommand);
        }
    }

    private void notice(int door) {
        same("writeNotice", () -> doors.writeNotice(door), () -> due.writeNotice(door));
        for (int index = -1; index <= 21; index++) {
            int one = index;
            same("noticeAt", () -> doors.noticeAt(one), () -> due.noticeAt(one));
        }
    }
}
