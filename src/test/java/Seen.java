/** What an object answers of itself, as a text. */
final class Seen {
    private Seen() {
    }

    /** All that undo and restore bring back. */
    static String state(MoonlitDoors x) {
        StringBuilder text = new StringBuilder();
        text.append(x.day()).append(' ').append(x.hour());
        for (int day = 23; day <= 32; day++) {
            text.append(' ').append(x.phaseOn(day));
        }
        text.append('|');
        for (int door = 0; door < x.doorCount(); door++) {
            door(x, door, text);
        }
        for (int i = 0; i < x.exceptionCount(); i++) {
            text.append(x.exceptionDoor(i)).append(' ').append(x.exceptionDay(i)).append('|');
        }
        for (int person = 0; person < x.personCount(); person++) {
            for (int key = 0; key < 8; key++) {
                text.append(x.hasKey(person, key) ? key : "-");
            }
            text.append(' ').append(x.entriesOf(person)).append('|');
        }
        for (int result = 0; result < 5; result++) {
            text.append(x.attemptsWith(result)).append(' ');
        }
        for (int recency = 0; recency < 10; recency++) {
            int one = recency;
            text.append(Checks.outcome(() -> x.loggedPerson(one) * 100 + x.loggedDoor(one) * 10 + x.loggedResult(one)));
            text.append('|');
        }
        return text.toString();
    }

    /** The state, and what undo and restore leave as it is; only the buffer can't be seen. */
    static String all(MoonlitDoors x) {
        StringBuilder text = new StringBuilder(state(x));
        text.append(Checks.outcome(x::errorPosition)).append('|').append(Checks.outcome(x::failedCommand)).append('|');
        for (int index = 0; index < 22; index++) {
            int one = index;
            text.append(Checks.outcome(() -> x.noticeAt(one)));
        }
        return text.toString();
    }

    private static void door(MoonlitDoors x, int door, StringBuilder text) {
        text.append(x.phasesOf(door)).append(' ').append(x.keyOf(door)).append(' ');
        for (int hour = 0; hour < 24; hour++) {
            text.append(x.isHourOf(door, hour) ? '+' : '-');
        }
        text.append(' ').append(x.isUnlocked(door)).append(' ').append(x.unlockedHours(door, 40));
        for (int ago = 0; ago < 8; ago++) {
            text.append(' ').append(x.entriesOn(door, ago)).append('/').append(x.refusalsOn(door, ago));
        }
        text.append('|');
    }
}
