/** The boundary cases of promises 44 to 49, and of the Terms' commands: the notice, the buffer and programs. */
final class BoundariesOfCommands {
    private static final String MALFORMED = "java.lang.IllegalArgumentException";
    private static final String FAILED = "java.lang.IllegalStateException";
    private static final String SEVEN = "wait 1;wait 1;wait 1;wait 1;wait 1;wait 1;wait 1;";

    private BoundariesOfCommands() {
    }

    static void test() {
        notice();
        type();
        grammar();
        execute();
        errorPosition();
        failedCommand();
    }

    private static void notice() {
        Sentences.test(44, "in place of the notice before", () -> {
            MoonlitDoors x = new MoonlitDoors();
            x.addDoor(255, 22, 23, 7);
            x.addDoor(0, 0, 0, 0);
            Checks.due("longer", x.writeNotice(0), 20);
            Checks.due("shorter", x.writeNotice(1), 11);
            Checks.due("its first character but one", x.noticeAt(1), '1');
            Checks.fails("behind it", Checks.INDEX, () -> x.noticeAt(11));
        });
        Sentences.test(44, "its phases in ascending order as digits, or \"-\" without any", () -> {
            MoonlitDoors x = Boundary.world(1, 0);
            x.setRule(0, 0, 1, 2, 3);
            Checks.due("none", Checks.notice(x, 0), "d0 - 1-2 k3");
            for (int phase = 0; phase < 8; phase++) {
                x.setRule(0, 1 << phase, 1, 2, 3);
                Checks.due("one", Checks.notice(x, 0), "d0 " + phase + " 1-2 k3");
            }
            x.setRule(0, 255, 1, 2, 3);
            Checks.due("all", Checks.notice(x, 0), "d0 01234567 1-2 k3");
        });
        Sentences.test(44, "and \"!\" if the door is unlocked now; as in \"d2 067 22-5 k3!\".", () -> {
            MoonlitDoors x = Boundary.world(8, 0);
            x.setRule(2, 1 + 64 + 128, 22, 5, 3);
            Checks.due("length", x.writeNotice(2), 15);
            Checks.due("as in the document", Checks.notice(x, 2), "d2 067 22-5 k3!");
            x.addException(2, 0, false);
            Checks.due("shut", Checks.notice(x, 2), "d2 067 22-5 k3");
            x.addException(7, 0, true);
            x.setRule(7, 255, 22, 23, 0);
            Checks.due("opened, the longest one", Checks.notice(x, 7), "d7 01234567 22-23 k0!");
            x.advance(24);
            Checks.due("unlocked no longer", Checks.notice(x, 7), "d7 01234567 22-23 k0");
            x.advance(22);
            Checks.due("unlocked by its rule", Checks.notice(x, 7), "d7 01234567 22-23 k0!");
        });
        Sentences.test(44, Boundary.NO_DOOR, () -> {
            Boundary.noSuchDoor(MoonlitDoors::writeNotice);
            MoonlitDoors x = Boundary.world(1, 0);
            x.writeNotice(0);
            Boundary.refused("a door behind a notice", x, Checks.INDEX, () -> x.writeNotice(1));
        });
        Sentences.test(45, "Returns a character of the notice, which is empty at first.", () -> {
            MoonlitDoors x = Boundary.world(1, 0);
            Boundary.refusedOutside(0, -1, x, Checks.INDEX, MoonlitDoors::noticeAt);
            Checks.outcome(() -> x.writeNotice(1));
            Boundary.refusedOutside(0, -1, x, Checks.INDEX, MoonlitDoors::noticeAt);
        });
        Sentences.test(45, "- `index`: index of the character, from 0", () -> {
            MoonlitDoors x = Boundary.world(1, 0);
            String due = "d0 01234567 0-23 k0!";
            Checks.due("length", x.writeNotice(0), due.length());
            for (int index = 0; index < due.length(); index++) {
                Checks.due("index " + index, x.noticeAt(index), due.charAt(index));
            }
            x.setRule(0, 0, 0, 0, 7);
            Checks.due("as it was written", x.noticeAt(18), '0');
        });
        Sentences.test(45, "Throws `IndexOutOfBoundsException` if there is no such character", () -> {
            MoonlitDoors x = Boundary.world(1, 0);
            Boundary.refusedOutside(0, x.writeNotice(0) - 1, x, Checks.INDEX, MoonlitDoors::noticeAt);
            x.setRule(0, 0, 0, 0, 7);
            Boundary.refusedOutside(0, x.writeNotice(0) - 1, x, Checks.INDEX, MoonlitDoors::noticeAt);
        });
    }

    private static void type() {
        Sentences.test(Document.TERMS, "Characters are collected in a buffer of at most 60 characters.", () -> {
            MoonlitDoors x = Boundary.world(1, 1);
            String program = SEVEN + "wait 001;wa";
            Checks.due("its length", program.length(), 60);
            Checks.type(x, program);
            Checks.fails("one more", Checks.STATE, () -> x.type('i'));
            Checks.due("the whole buffer", Checks.outcome(x::execute), MALFORMED);
            Checks.due("nothing behind it", x.errorPosition(), 60);
            Checks.due("a program of 60", Checks.execute(x, "wait 001;wait 001;wait 1;wait 1;wait 1;wait 1;wait 1;wait 01"), 8);
            Checks.due("hours", x.day() * 24 + x.hour(), 8);
        });
        Sentences.test(46, "Returns the number of characters in the buffer.", () -> {
            MoonlitDoors x = new MoonlitDoors();
            for (int count = 1; count <= 60; count++) {
                Checks.due("characters", x.type('a'), count);
            }
            Checks.outcome(x::execute);
            Checks.due("behind a program", x.type('a'), 1);
        });
        Sentences.test(46, "Throws `IllegalArgumentException` if the character is not from 32 to 126", () -> {
            MoonlitDoors x = new MoonlitDoors();
            for (int sign : new int[] {0, 9, 10, 13, 30, 31, 127, 128, 160, 255, 256, 288, 65535}) {
                Boundary.refused("sign " + sign, x, Checks.ARGUMENT, () -> x.type((char) sign));
            }
            int count = 0;
            for (int sign : new int[] {32, 33, 125, 126}) {
                count++;
                Checks.due("sign " + sign, x.type((char) sign), count);
            }
        });
        Sentences.test(46, "Throws `IllegalStateException` if the buffer contains 60 characters", () -> {
            MoonlitDoors x = new MoonlitDoors();
            Checks.type(x, SEVEN + "wait 1;wai");
            Checks.due("the sixtieth", x.type('t'), 60);
            Boundary.refused("the sixty-first", x, Checks.STATE, () -> x.type(' '));
            Boundary.refused("the sixty-first again", x, Checks.STATE, () -> x.type('~'));
        });
    }

    private static void grammar() {
        Sentences.test(Document.TERMS, "program = command { \";\" command }", () -> {
            malformed("", 0);
            malformed(";", 0);
            malformed("wait 1;", 7);
            malformed(";wait 1", 0);
            malformed("wait 1;;wait 1", 7);
            malformed("wait 1; wait 1", 7);
            malformed("wait 1 ;wait 1", 6);
            malformed("wait 1,wait 1", 6);
            malformed("wait 1wait 1", 6);
            malformed("wait 240wait 1", 8);
            malformed("give 00give 01", 7);
            malformed("shut 0 1take 00", 8);
            malformed("wait 1;try 00try 00", 13);
            for (int commands = 1; commands <= 8; commands++) {
                Checks.due("commands", Checks.execute(new MoonlitDoors(), (SEVEN + "wait 1;").substring(0, commands * 7 - 1)), commands);
            }
        });
        Sentences.test(Document.TERMS, "command = \"give \" digit digit | \"take \" digit digit | \"try \" digit digit", () -> {
            for (String word : new String[] {"give ", "take ", "try "}) {
                numbers(word, "");
                malformed(word + "0", word.length() + 1);
                malformed(word + "0/", word.length() + 1);
                malformed(word + "0:", word.length() + 1);
                malformed(word + "000", word.length() + 2);
                malformed(word + "00 ", word.length() + 2);
                malformed(word + "0 0", word.length() + 1);
            }
        });
        Sentences.test(Document.TERMS, "\"open \" digit \" \" number | \"shut \" digit \" \" number", () -> {
            dayCommand("open ");
            dayCommand("shut ");
        });
        Sentences.test(Document.TERMS, "\"lift \" digit \" \" number | \"moon \" number | \"wait \" number", () -> {
            dayCommand("lift ");
            numbers("moon ", "00");
            numbers("wait ", "00");
        });
        Sentences.test(Document.TERMS, "number  = one to three digits", BoundariesOfCommands::digits);
    }

    private static void dayCommand(String word) {
        numbers(word, "");
        malformed(word + "0", 6);
        malformed(word + "00", 6);
        malformed(word + "0;", 6);
        numbers(word + "0 ", "00");
        numbers(word + "9 ", "99");
    }

    /** What follows the words must be a digit, and behind it and these more digits nothing but the next command. */
    private static void numbers(String words, String more) {
        int length = words.length();
        malformed(words.substring(0, length - 1), length - 1);
        malformed(words, length);
        for (char sign : new char[] {' ', '/', ':', ';', '-', '+', 'a', '~'}) {
            malformed(words + sign, length);
        }
        if (!more.isEmpty()) {
            malformed(words + "0" + more + "0", length + 1 + more.length());
            malformed(words + "0" + more + ";", length + 2 + more.length());
            malformed(words + "0 ", length + 1);
        }
    }

    private static void digits() {
        String[] waits = {"wait 1", "wait 9", "wait 01", "wait 10", "wait 99", "wait 001", "wait 010", "wait 100", "wait 239", "wait 240"};
        int[] hours = {1, 9, 1, 10, 99, 1, 10, 100, 239, 240};
        for (int i = 0; i < waits.length; i++) {
            MoonlitDoors x = new MoonlitDoors();
            Checks.due(waits[i], Checks.execute(x, waits[i]), 1);
            Checks.due("hours by " + waits[i], x.day() * 24 + x.hour(), hours[i]);
        }
        MoonlitDoors x = Boundary.world(8, 0);
        Checks.due("days", Checks.execute(x, "open 7 0;open 7 01;open 7 002;open 7 998;open 7 999"), 5);
        int[] days = {0, 1, 2, 998, 999};
        for (int i = 0; i < days.length; i++) {
            Checks.due("day at " + i, x.exceptionDay(i), days[i]);
        }
        malformed("wait ", 5);
        malformed("wait 0001", 8);
        malformed("open 7 1000", 10);
        malformed("moon 0024", 8);
    }

    private static void malformed(String text, int position) {
        MoonlitDoors x = Boundary.world(8, 6);
        Checks.due("<" + text + ">", Checks.execute(x, text), MALFORMED);
        Checks.due("error position of <" + text + ">", x.errorPosition(), position);
        Checks.due("a program behind <" + text + ">", Checks.execute(x, "wait 1"), 1);
    }

    private static void execute() {
        Sentences.test(Document.TERMS, "The commands call giveKey and takeKey with the person and the key, tryDoor with the person and"
                + " the door, addException with the door, the day, and true or false, liftException with the door and the day,"
                + " setCycle, and advance.", BoundariesOfCommands::eachCommand);
        Sentences.test(47, "all commands of it or none, and empties the buffer.", BoundariesOfCommands::allOrNone);
        Sentences.test(47, "A refused attempt is no failure of its command.", () -> {
            MoonlitDoors x = Boundary.world(2, 1);
            x.addException(1, 0, false);
            Checks.due("refused twice", Checks.execute(x, "try 00;try 01;wait 1"), 3);
            Checks.due("results", x.loggedResult(0) * 10 + x.loggedResult(1), 12);
            Checks.due("hour", x.hour(), 1);
        });
        Sentences.test(47, "Returns the number of commands.", () -> {
            Checks.due("least", Checks.execute(new MoonlitDoors(), "wait 1"), 1);
            Checks.due("greatest", Checks.execute(Boundary.world(8, 6), "try 00;try 11;try 22;try 33;try 44;try 55;try 06;try 07"), 8);
        });
        Sentences.test(47, "Throws `IllegalArgumentException` if the program is malformed; its error position is stored", () -> {
            MoonlitDoors x = Boundary.world(1, 1);
            String before = Seen.state(x);
            Checks.due("an empty buffer", Checks.outcome(x::execute), MALFORMED);
            Checks.due("its error position", x.errorPosition(), 0);
            Checks.due("malformed at its end", Checks.execute(x, "wait 1;give 00;wait 1x"), MALFORMED);
            Checks.due("its error position", x.errorPosition(), 21);
            Checks.due("nothing changed", Seen.state(x), before);
            Checks.fails("no failed command", Checks.ELEMENT, x::failedCommand);
        });
        Sentences.test(47, "Throws `IllegalStateException` if the method of a command throws an exception; the index of the command is"
                + " stored", BoundariesOfCommands::eachFailure);
    }

    private static void eachCommand() {
        MoonlitDoors x = Boundary.world(8, 6);
        Checks.due("give", Checks.execute(x, "give 50;give 57"), 2);
        Checks.due("the last person's least key", x.keyAt(5, 0), 0);
        Checks.due("the last person's greatest key", x.keyAt(5, 1), 7);
        Checks.due("try", Checks.execute(x, "try 07;try 57"), 2);
        Checks.due("the person", x.loggedPerson(0) * 10 + x.loggedPerson(1), 50);
        Checks.due("the door", x.loggedDoor(0) * 10 + x.loggedDoor(1), 77);
        Checks.due("the results", x.loggedResult(0) * 10 + x.loggedResult(1), 2);
        Checks.due("take", Checks.execute(x, "take 50"), 1);
        Checks.due("the key taken", x.keyAt(5, 0), 7);
        x.setRule(6, 0, 0, 0, 0);
        Checks.due("open and shut", Checks.execute(x, "open 6 0;shut 7 0;shut 6 999"), 3);
        Checks.due("opened", x.isUnlocked(6), true);
        Checks.due("shut", x.isUnlocked(7), false);
        Checks.due("exceptions", x.exceptionCount(), 3);
        Checks.due("lift", Checks.execute(x, "lift 6 999;lift 7 0"), 2);
        Checks.due("lifted", x.hasException(6, 999) || x.hasException(7, 0), false);
        Checks.due("moon", Checks.execute(x, "moon 24;moon 32"), 2);
        Checks.due("the cycle", x.setCycle(29), 32);
        Checks.due("wait", Checks.execute(x, "wait 1;wait 240"), 2);
        Checks.due("the time", x.day() * 24 + x.hour(), 241);
    }

    private static void allOrNone() {
        MoonlitDoors fresh = new MoonlitDoors();
        Checks.due("a failure as the first call of all", Checks.execute(fresh, "moon 24;wait 240;wait 0"), FAILED);
        Checks.due("none of it", Seen.state(fresh), Seen.state(new MoonlitDoors()));
        MoonlitDoors x = Boundary.world(2, 2);
        x.addException(1, 5, true);
        x.addException(1, 6, true);
        x.giveKey(1, 1);
        String before = Seen.state(x);
        String[] failing = {"give 00;try 00;try 01;moon 24;wait 240;lift 1 5;wait 0", "take 11;shut 0 0;lift 1 6;wait 192;give 08",
            "open 0 3;open 0 4;give 00;take 00;take 00"};
        for (String text : failing) {
            Checks.due(text, Checks.execute(x, text), FAILED);
            Checks.due("none of " + text, Seen.state(x), before);
            Checks.due("the buffer is empty behind a failure", x.type('w'), 1);
            Checks.due("a malformed program", Checks.execute(x, "ait 1;wait"), MALFORMED);
            Checks.due("none of a malformed program", Seen.state(x), before);
            Checks.due("the buffer is empty behind an error", Checks.outcome(x::execute), MALFORMED);
        }
        Checks.due("all", Checks.execute(x, "give 00;try 00;wait 24;try 01"), 4);
        Checks.due("attempts", x.save(), 2);
        Checks.due("the attempt of the day before", x.entriesOn(0, 1), 1);
        Checks.due("the buffer is empty behind a program", x.type('w'), 1);
    }

    private static void eachFailure() {
        String[] failures = {"give 60", "give 08", "give 03", "take 60", "take 00", "take 09", "try 60", "try 08", "open 8 9", "open 0 0",
            "open 0 8", "shut 8 9", "shut 0 0", "shut 0 8", "lift 8 8", "lift 0 9", "moon 0", "moon 23", "moon 33", "moon 999", "wait 0",
            "wait 241", "wait 999"};
        for (String failure : failures) {
            MoonlitDoors x = Boundary.world(8, 6);
            x.giveKey(0, 3);
            x.addException(0, 8, true);
            x.advance(24);
            String before = Seen.state(x);
            Checks.due(failure, Checks.execute(x, failure), FAILED);
            Checks.due("index of " + failure, x.failedCommand(), 0);
            Checks.due("wait 1;" + failure, Checks.execute(x, "wait 1;" + failure + ";wait 0"), FAILED);
            Checks.due("index of the second " + failure, x.failedCommand(), 1);
            Checks.due("nothing changed", Seen.state(x), before);
            Checks.fails("no error position", Checks.ELEMENT, x::errorPosition);
        }
        MoonlitDoors x = Boundary.world(1, 0);
        Checks.due("a day that has passed by then", Checks.execute(x, "wait 24;open 0 1;open 0 0"), FAILED);
        Checks.due("its index", x.failedCommand(), 2);
        for (int day = 0; day < 11; day++) {
            x.addException(0, day, true);
        }
        Checks.due("a thirteenth exception", Checks.execute(x, "shut 0 11;shut 0 12"), FAILED);
        Checks.due("its index", x.failedCommand(), 1);
    }

    private static void errorPosition() {
        Sentences.test(Document.TERMS, "The error position of a malformed program is the index of the first character that cannot continue"
                + " any program, or the length of the text if it ends too early.", () -> {
            String[] commands = {"give 00", "take 12", "try 34", "open 5 678", "shut 9 012", "lift 3 456", "moon 789", "wait 111"};
            for (String command : commands) {
                prefixes(command, 0);
                prefixes("wait 1;" + command, 7);
            }
            malformed("ta ", 2);
            malformed("tra", 2);
            malformed("tay", 2);
            malformed("givE 00", 3);
            malformed("Give 00", 0);
            malformed("give  00", 5);
            malformed("sift 0 0", 1);
            malformed(SEVEN + "wait 1;x   ", 56);
            malformed(SEVEN + "wait 1;wait", 60);
            malformed(SEVEN + "wait 1;wai;", 59);
        });
        Sentences.test(48, "Returns the error position of the last malformed program.", () -> {
            MoonlitDoors x = new MoonlitDoors();
            Checks.execute(x, "wait");
            Checks.execute(x, "wait 1");
            Checks.due("kept by a program", x.errorPosition(), 4);
            Checks.execute(x, "wait 0");
            Checks.due("kept by a failure", x.errorPosition(), 4);
            Checks.execute(x, "");
            Checks.due("the last", x.errorPosition(), 0);
        });
        Sentences.test(48, "Throws `NoSuchElementException` if no program was malformed so far", () -> {
            MoonlitDoors x = new MoonlitDoors();
            Boundary.refused("no program", x, Checks.ELEMENT, x::errorPosition);
            Checks.execute(x, "wait 1");
            Checks.execute(x, "wait 0");
            Boundary.refused("no malformed program", x, Checks.ELEMENT, x::errorPosition);
            Checks.execute(x, "~");
            Checks.due("a malformed program", x.errorPosition(), 0);
        });
    }

    /** Each beginning of the command that ends too early, and each that a wrong sign follows. */
    private static void prefixes(String text, int from) {
        int whole = text.startsWith("t", from) || text.startsWith("g", from) ? text.length() : text.lastIndexOf(' ') + 2;
        for (int length = from; length < text.length(); length++) {
            if (length < whole) {
                malformed(text.substring(0, length), length);
            }
            malformed(text.substring(0, length) + "~", length);
            malformed(text.substring(0, length) + "~;wait 1", length);
        }
        for (int length = from; length < text.indexOf(' ', from); length++) {
            malformed(text.substring(0, length) + "00", length);
            malformed(text.substring(0, length) + " 00", length);
        }
        malformed(text + "0", text.length());
        malformed(text + "~", text.length());
        malformed(text + ";", text.length() + 1);
    }

    private static void failedCommand() {
        Sentences.test(49, "Returns the index of the last command that failed.", () -> {
            MoonlitDoors x = new MoonlitDoors();
            Checks.execute(x, "wait 1;wait 0");
            Checks.execute(x, "wait 1");
            Checks.due("kept by a program", x.failedCommand(), 1);
            Checks.execute(x, "wait 0;");
            Checks.due("kept by an error", x.failedCommand(), 1);
            Checks.execute(x, "wait 0;wait 0");
            Checks.due("the last, the first that fails in its program", x.failedCommand(), 0);
        });
        Sentences.test(49, "Returns the index in its program, from 0.", () -> {
            MoonlitDoors x = new MoonlitDoors();
            for (int index = 0; index < 8; index++) {
                Checks.due("failure", Checks.execute(x, SEVEN.substring(0, index * 7) + "wait 0"), FAILED);
                Checks.due("index", x.failedCommand(), index);
            }
        });
        Sentences.test(49, "Throws `NoSuchElementException` if no command failed so far", () -> {
            MoonlitDoors x = new MoonlitDoors();
            Boundary.refused("no program", x, Checks.ELEMENT, x::failedCommand);
            Checks.execute(x, "wait 1");
            Checks.execute(x, "wait 0;");
            Boundary.refused("no failed program", x, Checks.ELEMENT, x::failedCommand);
            Checks.execute(x, "moon 0");
            Checks.due("a failed program", x.failedCommand(), 0);
        });
    }
}
