import java.util.NoSuchElementException;

/** An access control system for doors that open by phases of the moon and hours of the day. */
public final class MoonlitDoors {
    public static final int ENTERED = 0, SHUT = 1, NO_KEY = 2, WRONG_PHASE = 3, WRONG_HOUR = 4;

    private static final int RESULTS = 5;
    private static final int HOURS_OF_DAY = 24;
    private static final int PHASES = 8;
    private static final int ALL_PHASES = 255;
    private static final int KEYS = 8;
    private static final int FIRST_CYCLE = 29, SHORTEST_CYCLE = 24, LONGEST_CYCLE = 32;
    private static final int MAX_DOORS = 8;
    private static final int MAX_PERSONS = 6;
    private static final int MAX_EXCEPTIONS = 12;
    private static final int LAST_EXCEPTION_DAY = 999;
    private static final int LAST_MOON_DAY = 9999;
    private static final int MAX_ADVANCE = 240;
    private static final int MAX_COUNTED_DAYS = 99;
    private static final int HOURS_AHEAD = 1000;
    private static final int AUDITED_DAYS = 8;
    private static final int LOG_SIZE = 10;
    private static final int MAX_TEXT = 60;
    private static final int FIRST_SIGN = 32, LAST_SIGN = 126;
    private static final int MAX_UNDO = 8;

    /** Stands where there is no position, key, hour, number or index. */
    private static final int NONE = -1;

    private final State state = new State();
    private final State snapshot = new State();
    private boolean snapshotTaken = false;
    private final History history = new History();
    private final Program program = new Program();
    private final StringBuilder notice = new StringBuilder();
    private int lastErrorPosition = NONE;
    private int lastFailedCommand = NONE;

    public MoonlitDoors() {
    }

    // ---- doors and their rules

    public int addDoor(int phases, int firstHour, int lastHour, int key)
            throws IllegalArgumentException, IllegalStateException {
        throwFor(state.faultOfNewDoor(phases, firstHour, lastHour, key));
        history.note(state);
        return state.doors.append(phases, firstHour, lastHour, key);
    }

    public int setRule(int door, int phases, int firstHour, int lastHour, int key)
            throws IndexOutOfBoundsException, IllegalArgumentException {
        requireDoor(door);
        throwFor(Doors.faultOfRule(phases, firstHour, lastHour, key));
        history.note(state);
        int previousKey = state.doors.keyFor(door);
        state.doors.write(door, phases, firstHour, lastHour, key);
        return previousKey;
    }

    public int addException(int door, int day, boolean opens)
            throws IndexOutOfBoundsException, IllegalArgumentException, UnsupportedOperationException,
            IllegalStateException {
        throwFor(state.faultOfNewException(door, day));
        history.note(state);
        return state.exceptions.insert(door, day, opens);
    }

    public boolean liftException(int door, int day) throws IndexOutOfBoundsException, NoSuchElementException {
        throwFor(state.faultOfLifting(door, day));
        history.note(state);
        return state.exceptions.remove(door, day);
    }

    public int setCycle(int days) throws IllegalArgumentException {
        throwFor(State.faultOfCycle(days));
        history.note(state);
        return state.changeCycle(days);
    }

    public int doorCount() {
        return state.doors.count;
    }

    public int phasesOf(int door) throws IndexOutOfBoundsException {
        requireDoor(door);
        return state.doors.phaseSetFor(door);
    }

    public int keyOf(int door) throws IndexOutOfBoundsException {
        requireDoor(door);
        return state.doors.keyFor(door);
    }

    public boolean isHourOf(int door, int hour) throws IndexOutOfBoundsException, IllegalArgumentException {
        requireDoor(door);
        requireRange(hour, 0, HOURS_OF_DAY - 1);
        return state.doors.containsHour(door, hour);
    }

    public int hourCount(int door) throws IndexOutOfBoundsException {
        requireDoor(door);
        return state.doors.countHours(door);
    }

    public int exceptionCount() {
        return state.exceptions.count;
    }

    public boolean hasException(int door, int day) throws IndexOutOfBoundsException {
        requireDoor(door);
        return state.exceptions.positionOf(door, day) != NONE;
    }

    public int exceptionDoor(int position) throws NoSuchElementException {
        requireElement(state.exceptions.holds(position));
        return state.exceptions.doorAt(position);
    }

    public int exceptionDay(int position) throws NoSuchElementException {
        requireElement(state.exceptions.holds(position));
        return state.exceptions.dayAt(position);
    }

    // ---- persons and attempts

    public int addPerson() throws IllegalStateException {
        if (state.persons.count >= MAX_PERSONS) {
            throw new IllegalStateException("no room for a person");
        }
        history.note(state);
        return state.persons.append();
    }

    public int giveKey(int person, int key)
            throws IndexOutOfBoundsException, IllegalArgumentException, IllegalStateException {
        throwFor(state.persons.faultOfGiving(person, key));
        history.note(state);
        return state.persons.give(person, key);
    }

    public int takeKey(int person, int key) throws IndexOutOfBoundsException, NoSuchElementException {
        throwFor(state.persons.faultOfTaking(person, key));
        history.note(state);
        return state.persons.take(person, key);
    }

    public int tryDoor(int person, int door) throws IndexOutOfBoundsException {
        throwFor(state.faultOfAttempt(person, door));
        history.note(state);
        return state.attempt(person, door);
    }

    public int wouldEnter(int person, int door) throws IndexOutOfBoundsException {
        throwFor(state.faultOfAttempt(person, door));
        return state.resultFor(person, door);
    }

    public int personCount() {
        return state.persons.count;
    }

    public boolean hasKey(int person, int key) throws IndexOutOfBoundsException {
        requirePerson(person);
        return state.persons.ringContains(person, key);
    }

    public int keyAt(int person, int position) throws IndexOutOfBoundsException, NoSuchElementException {
        requirePerson(person);
        int key = state.persons.keyOnRing(person, position);
        requireElement(key != NONE);
        return key;
    }

    public int doorsOfRing(int person) throws IndexOutOfBoundsException {
        requirePerson(person);
        return state.countDoorsOfRing(person);
    }

    public int personByEntries(int rank) throws IndexOutOfBoundsException {
        requirePerson(rank);
        return state.persons.personOfRank(rank);
    }

    public int entriesOf(int person) throws IndexOutOfBoundsException {
        requirePerson(person);
        return state.persons.entriesFor(person);
    }

    // ---- time and the moon

    public int advance(int hours) throws IllegalArgumentException {
        throwFor(State.faultOfWaiting(hours));
        history.note(state);
        return state.passHours(hours);
    }

    public int day() {
        return state.today();
    }

    public int hour() {
        return state.hourNow();
    }

    public int phaseOn(int day) throws IllegalArgumentException {
        requireRange(day, 0, LAST_MOON_DAY);
        return state.phaseFor(day);
    }

    public int daysUntilPhase(int phase) throws IllegalArgumentException {
        requireRange(phase, 0, PHASES - 1);
        return state.daysToPhase(phase);
    }

    public boolean isUnlocked(int door) throws IndexOutOfBoundsException {
        requireDoor(door);
        return state.isUnlockedAt(door, state.time);
    }

    public int hoursUntilUnlocked(int door) throws IndexOutOfBoundsException, NoSuchElementException {
        requireDoor(door);
        int hours = state.lookHourByHour(door);
        requireElement(hours != NONE);
        return hours;
    }

    public int hoursUntilUnlockedByDays(int door) throws IndexOutOfBoundsException, NoSuchElementException {
        requireDoor(door);
        int hours = state.lookDayByDay(door);
        requireElement(hours != NONE);
        return hours;
    }

    public int unlockedHours(int door, int days) throws IndexOutOfBoundsException, IllegalArgumentException {
        requireDoor(door);
        requireRange(days, 1, MAX_COUNTED_DAYS);
        return state.countUnlockedHours(door, days);
    }

    public int openDoorsFor(int person) throws IndexOutOfBoundsException {
        requirePerson(person);
        return state.countOpenDoors(person);
    }

    // ---- audits

    public int entriesOn(int door, int daysAgo) throws IndexOutOfBoundsException, IllegalArgumentException {
        requireDoor(door);
        requireRange(daysAgo, 0, AUDITED_DAYS - 1);
        return state.audits.countEntries(door, state.today() - daysAgo);
    }

    public int refusalsOn(int door, int daysAgo) throws IndexOutOfBoundsException, IllegalArgumentException {
        requireDoor(door);
        requireRange(daysAgo, 0, AUDITED_DAYS - 1);
        return state.audits.countRefusals(door, state.today() - daysAgo);
    }

    public int loggedPerson(int recency) throws NoSuchElementException {
        requireElement(state.audits.remembers(recency));
        return state.audits.personAt(recency);
    }

    public int loggedDoor(int recency) throws NoSuchElementException {
        requireElement(state.audits.remembers(recency));
        return state.audits.doorAt(recency);
    }

    public int loggedResult(int recency) throws NoSuchElementException {
        requireElement(state.audits.remembers(recency));
        return state.audits.resultAt(recency);
    }

    public int attemptsWith(int result) throws IllegalArgumentException {
        requireRange(result, 0, RESULTS - 1);
        return state.audits.countResults(result);
    }

    public double entryShare() throws ArithmeticException {
        int attempts = state.audits.attempts;
        if (attempts == 0) {
            throw new ArithmeticException("no attempts so far");
        }
        return (double) state.audits.countResults(ENTERED) / (double) attempts;
    }

    // ---- notice and commands

    public int writeNotice(int door) throws IndexOutOfBoundsException {
        requireDoor(door);
        notice.setLength(0);
        notice.append('d').append(door).append(' ');
        state.doors.describe(door, notice);
        if (state.isUnlockedAt(door, state.time)) {
            notice.append('!');
        }
        return notice.length();
    }

    public char noticeAt(int index) throws IndexOutOfBoundsException {
        if (index < 0 || index >= notice.length()) {
            throw new IndexOutOfBoundsException("no such character");
        }
        return notice.charAt(index);
    }

    public int type(char character) throws IllegalArgumentException, IllegalStateException {
        requireRange(character, FIRST_SIGN, LAST_SIGN);
        if (program.length() >= MAX_TEXT) {
            throw new IllegalStateException("the buffer is full");
        }
        return program.append(character);
    }

    public int execute() throws IllegalArgumentException, IllegalStateException {
        int commands = program.countCommands();
        if (commands == NONE) {
            lastErrorPosition = program.position;
            program.clear();
            throw new IllegalArgumentException("malformed program");
        }
        history.draft(state);
        int failed = runCommands(commands);
        program.clear();
        if (failed != NONE) {
            history.dropDraft(state);
            lastFailedCommand = failed;
            throw new IllegalStateException("a command failed");
        }
        history.keepDraft();
        return commands;
    }

    public int errorPosition() throws NoSuchElementException {
        requireElement(lastErrorPosition != NONE);
        return lastErrorPosition;
    }

    public int failedCommand() throws NoSuchElementException {
        requireElement(lastFailedCommand != NONE);
        return lastFailedCommand;
    }

    // ---- undo and snapshots

    public int undo() throws IllegalStateException {
        if (history.count == 0) {
            throw new IllegalStateException("nothing can be undone");
        }
        history.stepBack(state);
        return history.count;
    }

    public int save() {
        snapshot.copyFrom(state);
        snapshotTaken = true;
        return state.audits.attempts;
    }

    public int restore() throws IllegalStateException {
        if (!snapshotTaken) {
            throw new IllegalStateException("no snapshot");
        }
        state.copyFrom(snapshot);
        history.forget();
        return state.audits.attempts;
    }

    // ---- what the calls share

    private void requireDoor(int door) {
        if (!state.doors.holds(door)) {
            throw new IndexOutOfBoundsException("no such door");
        }
    }

    private void requirePerson(int person) {
        if (!state.persons.holds(person)) {
            throw new IndexOutOfBoundsException("no such person");
        }
    }

    private static void requireRange(int value, int least, int greatest) {
        if (value < least || value > greatest) {
            throw new IllegalArgumentException("out of range");
        }
    }

    private static void requireElement(boolean exists) {
        if (!exists) {
            throw new NoSuchElementException("no such element");
        }
    }

    private static void throwFor(Fault fault) {
        if (fault == Fault.INDEX) {
            throw new IndexOutOfBoundsException("no such door or person");
        }
        if (fault == Fault.ARGUMENT) {
            throw new IllegalArgumentException("out of range");
        }
        if (fault == Fault.PAST) {
            throw new UnsupportedOperationException("the day has passed");
        }
        if (fault == Fault.STATE) {
            throw new IllegalStateException("there already, or no room");
        }
        if (fault == Fault.ELEMENT) {
            throw new NoSuchElementException("not there");
        }
    }

    /** Answers the index of the command that failed, or NONE. */
    private int runCommands(int commands) {
        program.rewind();
        for (int index = 0; index < commands; index++) {
            program.readCommand();
            if (faultOfCommand(program.verb, program.first, program.second) != Fault.NOTHING) {
                return index;
            }
            carryOut(program.verb, program.first, program.second);
            program.readSign(';');
        }
        return NONE;
    }

    private Fault faultOfCommand(int verb, int first, int second) {
        switch (verb) {
            case Program.GIVE:
                return state.persons.faultOfGiving(first, second);
            case Program.TAKE:
                return state.persons.faultOfTaking(first, second);
            case Program.TRY:
                return state.faultOfAttempt(first, second);
            case Program.OPEN_DAY:
            case Program.SHUT_DAY:
                return state.faultOfNewException(first, second);
            case Program.LIFT_DAY:
                return state.faultOfLifting(first, second);
            case Program.MOON:
                return State.faultOfCycle(first);
            default:
                return State.faultOfWaiting(first);
        }
    }

    private void carryOut(int verb, int first, int second) {
        switch (verb) {
            case Program.GIVE:
                state.persons.give(first, second);
                break;
            case Program.TAKE:
                state.persons.take(first, second);
                break;
            case Program.TRY:
                state.attempt(first, second);
                break;
            case Program.OPEN_DAY:
            case Program.SHUT_DAY:
                state.exceptions.insert(first, second, verb == Program.OPEN_DAY);
                break;
            case Program.LIFT_DAY:
                state.exceptions.remove(first, second);
                break;
            case Program.MOON:
                state.changeCycle(first);
                break;
            default:
                state.passHours(first);
                break;
        }
    }

    /**
     * Why a modification can't be made. The calls answer a fault with an exception; a program only
     * asks whether there is one, so that it need not catch what its commands would throw.
     */
    private enum Fault {
        NOTHING, INDEX, ARGUMENT, PAST, STATE, ELEMENT
    }

    /** Reading and writing rows of numbers, with every index looked at before it is used. */
    private static final class Rows {
        static int at(int[] row, int index) {
            if (row == null || index < 0 || index >= row.length) {
                return 0;
            }
            return row[index];
        }

        static void put(int[] row, int index, int value) {
            if (row != null && index >= 0 && index < row.length) {
                row[index] = value;
            }
        }

        static void increase(int[] row, int index) {
            put(row, index, at(row, index) + 1);
        }

        static void copy(int[] from, int[] to) {
            if (from == null || to == null) {
                return;
            }
            for (int i = 0; i < from.length && i < to.length; i++) {
                to[i] = from[i];
            }
        }
    }

    private static final class Doors {
        int count = 0;
        private final int[] phaseSets = new int[MAX_DOORS];
        private final int[] firstHours = new int[MAX_DOORS];
        private final int[] lastHours = new int[MAX_DOORS];
        private final int[] keys = new int[MAX_DOORS];

        static Fault faultOfRule(int phases, int firstHour, int lastHour, int key) {
            boolean fits = phases >= 0 && phases <= ALL_PHASES
                    && firstHour >= 0 && firstHour < HOURS_OF_DAY
                    && lastHour >= 0 && lastHour < HOURS_OF_DAY
                    && key >= 0 && key < KEYS;
            return fits ? Fault.NOTHING : Fault.ARGUMENT;
        }

        boolean holds(int door) {
            return door >= 0 && door < count;
        }

        int append(int phases, int firstHour, int lastHour, int key) {
            int door = count;
            write(door, phases, firstHour, lastHour, key);
            count++;
            return door;
        }

        void write(int door, int phases, int firstHour, int lastHour, int key) {
            Rows.put(phaseSets, door, phases);
            Rows.put(firstHours, door, firstHour);
            Rows.put(lastHours, door, lastHour);
            Rows.put(keys, door, key);
        }

        int phaseSetFor(int door) {
            return Rows.at(phaseSets, door);
        }

        int keyFor(int door) {
            return Rows.at(keys, door);
        }

        boolean containsPhase(int door, int phase) {
            return (Rows.at(phaseSets, door) >> phase & 1) == 1;
        }

        boolean containsHour(int door, int hour) {
            int first = Rows.at(firstHours, door);
            int last = Rows.at(lastHours, door);
            if (first <= last) {
                return first <= hour && hour <= last;
            }
            return hour >= first || hour <= last;
        }

        int countHours(int door) {
            int span = Rows.at(lastHours, door) - Rows.at(firstHours, door);
            return Math.floorMod(span, HOURS_OF_DAY) + 1;
        }

        /** Answers the first hour of the door from this one to the end of the day, or NONE. */
        int firstHourFrom(int door, int hour) {
            if (containsHour(door, hour)) {
                return hour;
            }
            int first = Rows.at(firstHours, door);
            return first > hour ? first : NONE;
        }

        void describe(int door, StringBuilder text) {
            if (text == null) {
                return;
            }
            describePhases(door, text);
            text.append(' ').append(Rows.at(firstHours, door));
            text.append('-').append(Rows.at(lastHours, door));
            text.append(" k").append(Rows.at(keys, door));
        }

        private void describePhases(int door, StringBuilder text) {
            if (Rows.at(phaseSets, door) == 0) {
                text.append('-');
            }
            for (int phase = 0; phase < PHASES; phase++) {
                if (containsPhase(door, phase)) {
                    text.append(phase);
                }
            }
        }

        void copyFrom(Doors other) {
            if (other == null) {
                return;
            }
            count = other.count;
            Rows.copy(other.phaseSets, phaseSets);
            Rows.copy(other.firstHours, firstHours);
            Rows.copy(other.lastHours, lastHours);
            Rows.copy(other.keys, keys);
        }
    }

    /** The exceptions of days, held in the order of days, and of doors on the same day. */
    private static final class DayExceptions {
        static final int BY_RULE = 0, OPENS = 1, SHUTS = 2;

        int count = 0;
        private final int[] doors = new int[MAX_EXCEPTIONS];
        private final int[] days = new int[MAX_EXCEPTIONS];
        private final int[] effects = new int[MAX_EXCEPTIONS];

        boolean holds(int position) {
            return position >= 0 && position < count;
        }

        int doorAt(int position) {
            return Rows.at(doors, position);
        }

        int dayAt(int position) {
            return Rows.at(days, position);
        }

        int effectAt(int position) {
            return holds(position) ? Rows.at(effects, position) : BY_RULE;
        }

        int positionOf(int door, int day) {
            for (int i = 0; i < count; i++) {
                if (Rows.at(days, i) == day && Rows.at(doors, i) == door) {
                    return i;
                }
            }
            return NONE;
        }

        int insert(int door, int day, boolean opens) {
            int position = count;
            while (position > 0 && isAfter(position - 1, door, day)) {
                move(position - 1, position);
                position--;
            }
            Rows.put(doors, position, door);
            Rows.put(days, position, day);
            Rows.put(effects, position, opens ? OPENS : SHUTS);
            count++;
            return count;
        }

        /** Answers whether the exception opened the door. */
        boolean remove(int door, int day) {
            int position = positionOf(door, day);
            if (position == NONE) {
                return false;
            }
            boolean opened = effectAt(position) == OPENS;
            for (int i = position + 1; i < count; i++) {
                move(i, i - 1);
            }
            count--;
            return opened;
        }

        private boolean isAfter(int position, int door, int day) {
            int heldDay = Rows.at(days, position);
            return heldDay > day || heldDay == day && Rows.at(doors, position) > door;
        }

        private void move(int from, int to) {
            Rows.put(doors, to, Rows.at(doors, from));
            Rows.put(days, to, Rows.at(days, from));
            Rows.put(effects, to, Rows.at(effects, from));
        }

        void copyFrom(DayExceptions other) {
            if (other == null) {
                return;
            }
            count = other.count;
            Rows.copy(other.doors, doors);
            Rows.copy(other.days, days);
            Rows.copy(other.effects, effects);
        }
    }

    /** The persons; bit k of a ring stands for the key k. */
    private static final class Persons {
        int count = 0;
        private final int[] rings = new int[MAX_PERSONS];
        private final int[] entries = new int[MAX_PERSONS];

        boolean holds(int person) {
            return person >= 0 && person < count;
        }

        int append() {
            int person = count;
            count++;
            return person;
        }

        Fault faultOfGiving(int person, int key) {
            if (!holds(person)) {
                return Fault.INDEX;
            }
            if (key < 0 || key >= KEYS) {
                return Fault.ARGUMENT;
            }
            return ringContains(person, key) ? Fault.STATE : Fault.NOTHING;
        }

        Fault faultOfTaking(int person, int key) {
            if (!holds(person)) {
                return Fault.INDEX;
            }
            return ringContains(person, key) ? Fault.NOTHING : Fault.ELEMENT;
        }

        int give(int person, int key) {
            Rows.put(rings, person, Rows.at(rings, person) | 1 << key);
            return Integer.bitCount(Rows.at(rings, person));
        }

        int take(int person, int key) {
            Rows.put(rings, person, Rows.at(rings, person) & ~(1 << key));
            return Integer.bitCount(Rows.at(rings, person));
        }

        boolean ringContains(int person, int key) {
            return key >= 0 && key < KEYS && (Rows.at(rings, person) >> key & 1) == 1;
        }

        int keyOnRing(int person, int position) {
            int passed = 0;
            for (int key = 0; key < KEYS; key++) {
                if (ringContains(person, key)) {
                    if (passed == position) {
                        return key;
                    }
                    passed++;
                }
            }
            return NONE;
        }

        int entriesFor(int person) {
            return Rows.at(entries, person);
        }

        void countEntry(int person) {
            Rows.increase(entries, person);
        }

        int personOfRank(int rank) {
            for (int person = 0; person < count; person++) {
                if (countAhead(person) == rank) {
                    return person;
                }
            }
            return NONE;
        }

        private int countAhead(int person) {
            int own = Rows.at(entries, person);
            int ahead = 0;
            for (int other = 0; other < count; other++) {
                int theirs = Rows.at(entries, other);
                if (theirs > own || theirs == own && other < person) {
                    ahead++;
                }
            }
            return ahead;
        }

        void copyFrom(Persons other) {
            if (other == null) {
                return;
            }
            count = other.count;
            Rows.copy(other.rings, rings);
            Rows.copy(other.entries, entries);
        }
    }

    /** The counts of attempts, night by night and in all, and the log; days share their slots by turns. */
    private static final class Audits {
        int attempts = 0;
        private final int[] entryCounts = new int[MAX_DOORS * AUDITED_DAYS];
        private final int[] refusalCounts = new int[MAX_DOORS * AUDITED_DAYS];
        private final int[] resultCounts = new int[RESULTS];
        private final int[] persons = new int[LOG_SIZE];
        private final int[] doors = new int[LOG_SIZE];
        private final int[] results = new int[LOG_SIZE];

        void record(int person, int door, int day, int result) {
            int place = Math.floorMod(attempts, LOG_SIZE);
            Rows.put(persons, place, person);
            Rows.put(doors, place, door);
            Rows.put(results, place, result);
            attempts++;
            Rows.increase(resultCounts, result);
            Rows.increase(result == ENTERED ? entryCounts : refusalCounts, slotOf(door, day));
        }

        /** Empties the slots of the days that begin, which hold the counts of days now forgotten. */
        void beginDays(int dayBefore, int dayAfter) {
            for (int i = 1; i <= AUDITED_DAYS && i <= dayAfter - dayBefore; i++) {
                for (int door = 0; door < MAX_DOORS; door++) {
                    Rows.put(entryCounts, slotOf(door, dayBefore + i), 0);
                    Rows.put(refusalCounts, slotOf(door, dayBefore + i), 0);
                }
            }
        }

        int countEntries(int door, int day) {
            return day < 0 ? 0 : Rows.at(entryCounts, slotOf(door, day));
        }

        int countRefusals(int door, int day) {
            return day < 0 ? 0 : Rows.at(refusalCounts, slotOf(door, day));
        }

        int countResults(int result) {
            return Rows.at(resultCounts, result);
        }

        boolean remembers(int recency) {
            return recency >= 0 && recency < LOG_SIZE && recency < attempts;
        }

        int personAt(int recency) {
            return Rows.at(persons, placeOf(recency));
        }

        int doorAt(int recency) {
            return Rows.at(doors, placeOf(recency));
        }

        int resultAt(int recency) {
            return Rows.at(results, placeOf(recency));
        }

        private int placeOf(int recency) {
            return Math.floorMod(attempts - 1 - recency, LOG_SIZE);
        }

        private static int slotOf(int door, int day) {
            return door * AUDITED_DAYS + Math.floorMod(day, AUDITED_DAYS);
        }

        void copyFrom(Audits other) {
            if (other == null) {
                return;
            }
            attempts = other.attempts;
            Rows.copy(other.entryCounts, entryCounts);
            Rows.copy(other.refusalCounts, refusalCounts);
            Rows.copy(other.resultCounts, resultCounts);
            Rows.copy(other.persons, persons);
            Rows.copy(other.doors, doors);
            Rows.copy(other.results, results);
        }
    }

    /** All that undo and restore bring back. */
    private static final class State {
        int time = 0;
        private int cycle = FIRST_CYCLE;
        final Doors doors = new Doors();
        final DayExceptions exceptions = new DayExceptions();
        final Persons persons = new Persons();
        final Audits audits = new Audits();

        Fault faultOfNewDoor(int phases, int firstHour, int lastHour, int key) {
            Fault fault = Doors.faultOfRule(phases, firstHour, lastHour, key);
            if (fault == Fault.NOTHING && doors.count >= MAX_DOORS) {
                return Fault.STATE;
            }
            return fault;
        }

        Fault faultOfNewException(int door, int day) {
            if (!doors.holds(door)) {
                return Fault.INDEX;
            }
            if (day < 0 || day > LAST_EXCEPTION_DAY) {
                return Fault.ARGUMENT;
            }
            if (day < today()) {
                return Fault.PAST;
            }
            if (exceptions.positionOf(door, day) != NONE || exceptions.count >= MAX_EXCEPTIONS) {
                return Fault.STATE;
            }
            return Fault.NOTHING;
        }

        Fault faultOfLifting(int door, int day) {
            if (!doors.holds(door)) {
                return Fault.INDEX;
            }
            return exceptions.positionOf(door, day) == NONE ? Fault.ELEMENT : Fault.NOTHING;
        }

        Fault faultOfAttempt(int person, int door) {
            return persons.holds(person) && doors.holds(door) ? Fault.NOTHING : Fault.INDEX;
        }

        static Fault faultOfCycle(int days) {
            return days < SHORTEST_CYCLE || days > LONGEST_CYCLE ? Fault.ARGUMENT : Fault.NOTHING;
        }

        static Fault faultOfWaiting(int hours) {
            return hours < 1 || hours > MAX_ADVANCE ? Fault.ARGUMENT : Fault.NOTHING;
        }

        int today() {
            return Math.floorDiv(time, HOURS_OF_DAY);
        }

        int hourNow() {
            return Math.floorMod(time, HOURS_OF_DAY);
        }

        /** Answers the cycle before. */
        int changeCycle(int days) {
            int previous = cycle;
            cycle = days;
            return previous;
        }

        /** Answers the day afterwards. */
        int passHours(int hours) {
            int dayBefore = today();
            time += hours;
            audits.beginDays(dayBefore, today());
            return today();
        }

        int phaseFor(int day) {
            if (cycle <= 0) {
                return 0;
            }
            return Math.floorMod(day, cycle) * PHASES / cycle;
        }

        int daysToPhase(int phase) {
            int days = 1;
            // A whole cycle ahead the phase is today's again, so no phase is further away.
            while (days < cycle && phaseFor(today() + days) != phase) {
                days++;
            }
            return days;
        }

        int attempt(int person, int door) {
            int result = resultFor(person, door);
            audits.record(person, door, today(), result);
            if (result == ENTERED) {
                persons.countEntry(person);
            }
            return result;
        }

        int resultFor(int person, int door) {
            int day = today();
            int effect = exceptions.effectAt(exceptions.positionOf(door, day));
            if (effect == DayExceptions.SHUTS) {
                return SHUT;
            }
            if (!persons.ringContains(person, doors.keyFor(door))) {
                return NO_KEY;
            }
            if (effect == DayExceptions.OPENS) {
                return ENTERED;
            }
            if (!doors.containsPhase(door, phaseFor(day))) {
                return WRONG_PHASE;
            }
            return doors.containsHour(door, hourNow()) ? ENTERED : WRONG_HOUR;
        }

        boolean isUnlockedAt(int door, int moment) {
            int day = Math.floorDiv(moment, HOURS_OF_DAY);
            int effect = exceptions.effectAt(exceptions.positionOf(door, day));
            if (effect != DayExceptions.BY_RULE) {
                return effect == DayExceptions.OPENS;
            }
            return doors.containsPhase(door, phaseFor(day))
                    && doors.containsHour(door, Math.floorMod(moment, HOURS_OF_DAY));
        }

        int lookHourByHour(int door) {
            for (int hours = 0; hours <= HOURS_AHEAD; hours++) {
                if (isUnlockedAt(door, time + hours)) {
                    return hours;
                }
            }
            return NONE;
        }

        int lookDayByDay(int door) {
            int passedToday = hourNow();
            for (int days = 0; days * HOURS_OF_DAY - passedToday <= HOURS_AHEAD; days++) {
                int from = days == 0 ? passedToday : 0;
                int hour = firstUnlockedHour(door, today() + days, from);
                if (hour != NONE) {
                    int hours = days * HOURS_OF_DAY - passedToday + hour;
                    return hours <= HOURS_AHEAD ? hours : NONE;
                }
            }
            return NONE;
        }

        private int firstUnlockedHour(int door, int day, int from) {
            int effect = exceptions.effectAt(exceptions.positionOf(door, day));
            if (effect == DayExceptions.OPENS) {
                return from;
            }
            if (effect == DayExceptions.SHUTS || !doors.containsPhase(door, phaseFor(day))) {
                return NONE;
            }
            return doors.firstHourFrom(door, from);
        }

        int countUnlockedHours(int door, int days) {
            int hours = 0;
            for (int i = 0; i < days; i++) {
                hours += countHoursOnDay(door, today() + i);
            }
            return hours;
        }

        private int countHoursOnDay(int door, int day) {
            int effect = exceptions.effectAt(exceptions.positionOf(door, day));
            if (effect == DayExceptions.OPENS) {
                return HOURS_OF_DAY;
            }
            if (effect == DayExceptions.SHUTS || !doors.containsPhase(door, phaseFor(day))) {
                return 0;
            }
            return doors.countHours(door);
        }

        int countDoorsOfRing(int person) {
            int found = 0;
            for (int door = 0; door < doors.count; door++) {
                if (persons.ringContains(person, doors.keyFor(door))) {
                    found++;
                }
            }
            return found;
        }

        int countOpenDoors(int person) {
            int found = 0;
            for (int door = 0; door < doors.count; door++) {
                if (resultFor(person, door) == ENTERED) {
                    found++;
                }
            }
            return found;
        }

        void copyFrom(State other) {
            if (other == null) {
                return;
            }
            time = other.time;
            cycle = other.cycle;
            doors.copyFrom(other.doors);
            exceptions.copyFrom(other.exceptions);
            persons.copyFrom(other.persons);
            audits.copyFrom(other.audits);
        }
    }

    /**
     * The states before the modifications that can be undone. One row more than these stands ready
     * for a draft, so that a program that fails costs none of them.
     */
    private static final class History {
        int count = 0;
        private int next = 0;
        private final State[] rows = new State[MAX_UNDO + 1];

        History() {
            for (int i = 0; i < rows.length; i++) {
                rows[i] = new State();
            }
        }

        void note(State state) {
            draft(state);
            keepDraft();
        }

        void draft(State state) {
            copy(state, rowAt(next));
        }

        void keepDraft() {
            next = Math.floorMod(next + 1, MAX_UNDO + 1);
            count = Math.min(count + 1, MAX_UNDO);
        }

        void dropDraft(State state) {
            copy(rowAt(next), state);
        }

        void stepBack(State state) {
            next = Math.floorMod(next - 1, MAX_UNDO + 1);
            count--;
            copy(rowAt(next), state);
        }

        void forget() {
            count = 0;
        }

        private State rowAt(int index) {
            return index >= 0 && index < rows.length ? rows[index] : null;
        }

        private static void copy(State from, State to) {
            if (from != null && to != null) {
                to.copyFrom(from);
            }
        }
    }

    /** The text in the buffer and its reader, which stops at the first sign that can't go on. */
    private static final class Program {
        static final int GIVE = 0, TAKE = 1, TRY = 2, OPEN_DAY = 3, SHUT_DAY = 4, LIFT_DAY = 5, MOON = 6, WAIT = 7;
        private static final int MAX_DIGITS = 3;

        int position = 0;
        int verb = GIVE;
        int first = 0;
        int second = 0;
        private final StringBuilder text = new StringBuilder();

        int length() {
            return text.length();
        }

        int append(char sign) {
            text.append(sign);
            return text.length();
        }

        void clear() {
            text.setLength(0);
        }

        void rewind() {
            position = 0;
        }

        /** Answers NONE for a malformed program, and the position then stands at its error. */
        int countCommands() {
            rewind();
            for (int count = 1; count <= MAX_TEXT; count++) {
                if (!readCommand()) {
                    return NONE;
                }
                if (position == text.length()) {
                    return count;
                }
                if (!readSign(';')) {
                    return NONE;
                }
            }
            return NONE;
        }

        boolean readCommand() {
            return readVerb() && readArguments();
        }

        boolean readSign(char sign) {
            if (signAt(position) != sign) {
                return false;
            }
            position++;
            return true;
        }

        private boolean readVerb() {
            int furthest = 0;
            for (verb = GIVE; verb <= WAIT; verb++) {
                String word = wordOf(verb);
                int shared = countShared(word);
                furthest = Math.max(furthest, shared);
                if (shared == word.length()) {
                    break;
                }
            }
            position += furthest;
            return verb <= WAIT;
        }

        private int countShared(String word) {
            int shared = 0;
            while (shared < word.length() && signAt(position + shared) == word.charAt(shared)) {
                shared++;
            }
            return shared;
        }

        private boolean readArguments() {
            first = verb <= LIFT_DAY ? readDigit() : readNumber();
            second = 0;
            if (first == NONE) {
                return false;
            }
            if (verb <= TRY) {
                second = readDigit();
            } else if (verb <= LIFT_DAY) {
                second = readSign(' ') ? readNumber() : NONE;
            }
            return second != NONE;
        }

        private int readNumber() {
            int number = readDigit();
            for (int digits = 1; digits < MAX_DIGITS && number != NONE; digits++) {
                int digit = readDigit();
                if (digit == NONE) {
                    return number;
                }
                number = number * 10 + digit;
            }
            return number;
        }

        private int readDigit() {
            char sign = signAt(position);
            if (sign < '0' || sign > '9') {
                return NONE;
            }
            position++;
            return sign - '0';
        }

        /** Answers the sign 0, which no text holds, outside the text. */
        private char signAt(int index) {
            return index >= 0 && index < text.length() ? text.charAt(index) : (char) 0;
        }

        private static String wordOf(int verb) {
            switch (verb) {
                case GIVE:
                    return "give ";
                case TAKE:
                    return "take ";
                case TRY:
                    return "try ";
                case OPEN_DAY:
                    return "open ";
                case SHUT_DAY:
                    return "shut ";
                case LIFT_DAY:
                    return "lift ";
                case MOON:
                    return "moon ";
                default:
                    return "wait ";
            }
        }
    }
}
