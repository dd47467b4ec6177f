/** Promises 44 to 49: the notice, the buffer and programs. */
public final class CommandsTest {
    private static final int MIN = Integer.MIN_VALUE, MAX = Integer.MAX_VALUE;
    private static final String MALFORMED = "java.lang.IllegalArgumentException";
    private static final String FAILED = "java.lang.IllegalStateException";

    public static void main(String[] args) {
        promise44WriteNotice();
        promise45NoticeAt();
        promise46Type();
        promise47EachCommand();
        promise47AsTheCalls();
        promise47AllOrNone();
        promise47Buffer();
        promise48ErrorPosition();
        promise48LongText();
        promise49FailedCommand();
        promise49EachFault();
        Checks.finish();
    }

    private static void promise44WriteNotice() {
        MoonlitDoors x = new MoonlitDoors();
        x.addDoor(255, 22, 23, 7);
        x.addDoor(0, 0, 0, 0);
        x.addDoor(1 + 64 + 128, 22, 5, 3);
        Checks.due("44 locked", Checks.notice(x, 0), "d0 01234567 22-23 k7");
        Checks.due("44 no phases", Checks.notice(x, 1), "d1 - 0-0 k0");
        Checks.due("44 as in the document", Checks.notice(x, 2), "d2 067 22-5 k3!");
        Checks.due("44 length", x.writeNotice(2), 15);
        x.advance(22);
        Checks.due("44 longest", Checks.notice(x, 0), "d0 01234567 22-23 k7!");
        x.addException(2, 0, false);
        Checks.due("44 shut", Checks.notice(x, 2), "d2 067 22-5 k3");
        for (int door : new int[] {-1, 3, 8, MIN, MAX}) {
            Checks.fails("44 door " + door, Checks.INDEX, () -> x.writeNotice(door));
        }
        Checks.due("44 kept", x.noticeAt(1), '2');
    }

    private static void promise45NoticeAt() {
        MoonlitDoors x = new MoonlitDoors();
        Checks.fails("45 empty at first", Checks.INDEX, () -> x.noticeAt(0));
        x.addDoor(255, 10, 23, 7);
        x.addDoor(0, 0, 0, 0);
        int length = x.writeNotice(0);
        Checks.due("45 last", x.noticeAt(length - 1), '7');
        x.writeNotice(1);
        Checks.due("45 last of the shorter", x.noticeAt(10), '0');
        for (int index : new int[] {-1, 11, 16, 60, MIN, MAX}) {
            Checks.fails("45 index " + index, Checks.INDEX, () -> x.noticeAt(index));
        }
        x.setRule(1, 0, 5, 0, 0);
        Checks.due("45 as it was written", x.noticeAt(5), '0');
        x.undo();
        x.undo();
        Checks.due("45 not undone", x.noticeAt(1), '1');
    }

    private static void promise46Type() {
        MoonlitDoors x = new MoonlitDoors();
        Checks.fails("46 sign 31", Checks.ARGUMENT, () -> x.type((char) 31));
        Checks.fails("46 sign 127", Checks.ARGUMENT, () -> x.type((char) 127));
        Checks.fails("46 sign 0", Checks.ARGUMENT, () -> x.type((char) 0));
        Checks.fails("46 sign 65535", Checks.ARGUMENT, () -> x.type((char) 65535));
        Checks.due("46 least", x.type(' '), 1);
        Checks.due("46 greatest", x.type('~'), 2);
        for (int i = 3; i <= 60; i++) {
            Checks.due("46 count", x.type('a'), i);
        }
        Checks.fails("46 full", Checks.STATE, () -> x.type('a'));
        Checks.fails("46 wrong and full", Checks.ARGUMENT, () -> x.type((char) 31));
        Checks.due("46 malformed", Checks.outcome(x::execute), MALFORMED);
        Checks.due("46 emptied", x.type('a'), 1);
    }

    private static MoonlitDoors oneOfEach() {
        MoonlitDoors x = new MoonlitDoors();
        x.addDoor(255, 0, 23, 0);
        x.addDoor(0, 0, 23, 1);
        x.addPerson();
        return x;
    }

    private static void promise47EachCommand() {
        MoonlitDoors x = oneOfEach();
        Checks.due("47 give", Checks.execute(x, "give 07"), 1);
        Checks.due("47 given", x.hasKey(0, 7), true);
        Checks.due("47 take", Checks.execute(x, "take 07"), 1);
        Checks.due("47 taken", x.hasKey(0, 7), false);
        Checks.due("47 try", Checks.execute(x, "try 01"), 1);
        Checks.due("47 tried", x.loggedDoor(0), 1);
        Checks.due("47 a refusal is no failure", x.loggedResult(0), MoonlitDoors.NO_KEY);
        Checks.due("47 open", Checks.execute(x, "open 1 0"), 1);
        Checks.due("47 opened", x.isUnlocked(1), true);
        Checks.due("47 shut", Checks.execute(x, "shut 0 00"), 1);
        Checks.due("47 was shut", x.isUnlocked(0), false);
        Checks.due("47 lift", Checks.execute(x, "lift 0 000"), 1);
        Checks.due("47 lifted", x.isUnlocked(0), true);
        Checks.due("47 moon", Checks.execute(x, "moon 24"), 1);
        Checks.due("47 cycle", x.setCycle(29), 24);
        Checks.due("47 wait", Checks.execute(x, "wait 240"), 1);
        Checks.due("47 waited", x.day(), 10);
        Checks.due("47 zeros ahead", Checks.execute(x, "wait 001;open 0 999"), 2);
        Checks.due("47 waited one", x.hour(), 1);
        Checks.due("47 last day", x.hasException(0, 999), true);
        Checks.due("47 eight commands", Checks.execute(x, "wait 1;wait 1;wait 1;wait 1;wait 1;wait 1;wait 1;wait 12"), 8);
        Checks.due("47 waited nineteen", x.hour(), 20);
    }

    private interface Called {
        Object by(MoonlitDoors x);
    }

    private static MoonlitDoors several() {
        MoonlitDoors x = new MoonlitDoors();
        for (int door = 0; door < 5; door++) {
            x.addDoor(255, 3, 21, door % 3);
            x.addException(door, door + 1, door % 2 == 0);
        }
        for (int person = 0; person < 4; person++) {
            x.addPerson();
            x.giveKey(person, person / 2);
            x.giveKey(person, person + 3);
        }
        x.advance(55);
        return x;
    }

    /** A command does what its call does, and fails where its call throws. */
    private static void promise47AsTheCalls() {
        for (int i = 0; i < 100; i++) {
            int first = i / 10;
            int second = i % 10;
            String day = String.format(i % 3 == 0 ? "%03d" : "%d", second);
            asCall("give " + first + second, x -> x.giveKey(first, second));
            asCall("take " + first + second, x -> x.takeKey(first, second));
            asCall("try " + first + second, x -> x.tryDoor(first, second));
            asCall("open " + first + " " + day, x -> x.addException(first, second, true));
            asCall("shut " + first + " " + day, x -> x.addException(first, second, false));
            asCall("lift " + first + " " + day, x -> x.liftException(first, second));
            int far = i * 10;
            asCall("open " + first + " " + far, x -> x.addException(first, far, true));
        }
        for (int number = 0; number < 300; number++) {
            int one = number;
            asCall("moon " + number, x -> x.setCycle(one));
            asCall("wait " + number, x -> x.advance(one));
        }
    }

    private static void asCall(String text, Called call) {
        MoonlitDoors x = several();
        MoonlitDoors called = several();
        boolean fails = Checks.outcome(() -> call.by(called)) instanceof String;
        Checks.due("47 " + text, Checks.execute(x, text), fails ? FAILED : 1);
        Checks.due("47 state by " + text, Seen.state(x), Seen.state(called));
        Checks.due("47 left to undo behind " + text, x.undo(), called.undo());
    }

    private static void promise47AllOrNone() {
        MoonlitDoors x = oneOfEach();
        x.addException(1, 5, true);
        Checks.due("47 fails", Checks.execute(x, "give 00;try 00;wait 240;moon 24;lift 1 5;open 0 5"), FAILED);
        Checks.due("47 key", x.hasKey(0, 0), false);
        Checks.due("47 attempts", x.save(), 0);
        Checks.due("47 entries", x.entriesOf(0), 0);
        Checks.due("47 day", x.day(), 0);
        Checks.due("47 cycle", x.setCycle(29), 29);
        Checks.due("47 exception", x.hasException(1, 5), true);
        Checks.due("47 malformed", Checks.execute(x, "give 00;wait"), MALFORMED);
        Checks.due("47 malformed does nothing", x.hasKey(0, 0), false);
        Checks.due("47 malformed before failed", Checks.execute(x, "give 90;wait"), MALFORMED);
        Checks.due("47 one after the other", Checks.execute(x, "give 00;try 00;wait 24;open 1 1;try 00"), 5);
        Checks.due("47 entries after", x.entriesOf(0), 2);
        Checks.due("47 entries before", x.entriesOn(0, 1), 1);
    }

    private static void promise47Buffer() {
        MoonlitDoors x = oneOfEach();
        Checks.execute(x, "wait 1");
        Checks.due("47 emptied by a program", x.type('w'), 1);
        Checks.execute(x, "ait 0");
        Checks.due("47 emptied by a failure", x.type('w'), 1);
        Checks.execute(x, "x");
        Checks.due("47 emptied by an error", x.type('w'), 1);
        x.save();
        x.type('a');
        x.restore();
        x.addPerson();
        x.undo();
        Checks.due("47 kept by restore and undo", Checks.execute(x, "it 2"), 1);
        Checks.due("47 hour", x.hour(), 3);
    }

    private static void error(String text, int due) {
        MoonlitDoors x = oneOfEach();
        Checks.fails("48 none yet", Checks.ELEMENT, x::errorPosition);
        Checks.due("48 <" + text + ">", Checks.execute(x, text), MALFORMED);
        Checks.due("48 error of <" + text + ">", x.errorPosition(), due);
    }

    private static void promise48ErrorPosition() {
        String[] whole = {"give 00", "take 12", "try 34", "open 5 678", "shut 9 012", "lift 3 456", "moon 789", "wait 111"};
        for (String text : whole) {
            int shortest = text.length();
            for (int length = 0; length < text.length(); length++) {
                boolean number = length > 0 && text.charAt(length - 1) != ' ' && text.charAt(length) != ' ';
                boolean enough = number && length >= text.lastIndexOf(' ') + 2 && !"give take try ".contains(text.substring(0, 3));
                if (!enough) {
                    error(text.substring(0, length), length);
                }
                error(text.substring(0, length) + "~", length);
            }
            for (int length = 0; length <= text.indexOf(' '); length++) {
                error(text.substring(0, length) + "1", length);
                error(text.substring(0, length) + "1 1", length);
                error(text.substring(0, length) + "11", length);
            }
            error(text + "0", shortest);
            error(text + " ", shortest);
            error(text + ";", shortest + 1);
            error(text + "; ", shortest + 1);
            error(text + ";;", shortest + 1);
            error(text + ";tx", shortest + 2);
            for (String next : whole) {
                error(text + next, shortest);
            }
        }
        error("wait 1wait 1", 6);
        error("open 0 1give 00", 8);
        error("wait 1;try 00try 00", 13);
        error("", 0);
        error("tr", 2);
        error("ta ", 2);
        error("GIVE 00", 0);
        error("give 0 0", 6);
        error("open 00 1", 6);
        error("shut 00 1", 6);
        error("lift 00 1", 6);
        error("wait -1", 5);
        error(" wait 1", 0);
        error("wait /", 5);
        error("wait :", 5);
    }

    private static void promise48LongText() {
        error("wait 1;wait 1;wait 1;wait 1;wait 1;wait 1;wait 1;wait 1;wait", 60);
        error("wait 1;wait 1;wait 1;wait 1;wait 1;wait 1;wait 1;wait 1;give", 60);
        error("wait 1;wait 1;wait 1;wait 1;wait 1;wait 1;wait 1;wait 11;wai", 60);
        error("wait 1;wait 1;wait 1;wait 1;wait 1;wait 1;wait 1;wait 1234;w", 57);
        MoonlitDoors x = oneOfEach();
        Checks.execute(x, "give");
        Checks.execute(x, "wait 1");
        Checks.execute(x, "wait 0");
        x.save();
        x.restore();
        x.addPerson();
        x.undo();
        Checks.due("48 kept", x.errorPosition(), 4);
        Checks.execute(x, "x");
        Checks.due("48 the last", x.errorPosition(), 0);
    }

    private static void promise49FailedCommand() {
        MoonlitDoors x = oneOfEach();
        Checks.fails("49 none yet", Checks.ELEMENT, x::failedCommand);
        Checks.execute(x, "give 9");
        Checks.fails("49 malformed is no failure", Checks.ELEMENT, x::failedCommand);
        Checks.due("49 third", Checks.execute(x, "wait 1;wait 2;wait 0;wait 0"), FAILED);
        Checks.due("49 index", x.failedCommand(), 2);
        Checks.execute(x, "wait 1");
        x.save();
        x.restore();
        x.addPerson();
        x.undo();
        Checks.due("49 kept", x.failedCommand(), 2);
        Checks.execute(x, "give 10");
        Checks.due("49 the last", x.failedCommand(), 0);
        Checks.execute(x, "wait 1;wait 1;wait 1;wait 1;wait 1;wait 1;wait 1;moon 1");
        Checks.due("49 the eighth", x.failedCommand(), 7);
        Checks.execute(x, "x");
        Checks.due("49 kept by an error", x.failedCommand(), 7);
        Checks.fails("49 no error forgotten", Checks.ARITHMETIC, x::entryShare);
    }

    private static void promise49EachFault() {
        String[] faults = {"give 10", "give 08", "give 03", "take 10", "take 00", "take 09", "try 10", "try 02",
            "open 2 9", "open 0 0", "shut 0 8", "lift 2 8", "lift 0 9", "moon 23", "moon 33", "wait 0", "wait 241"};
        for (String fault : faults) {
            MoonlitDoors x = oneOfEach();
            x.giveKey(0, 3);
            x.addException(0, 8, true);
            x.advance(24);
            Checks.due("49 " + fault, Checks.execute(x, "wait 1;" + fault), FAILED);
            Checks.due("49 index of " + fault, x.failedCommand(), 1);
            Checks.due("49 nothing waited", x.hour(), 0);
        }
    }
}
