import java.util.ArrayDeque;
import java.util.ArrayList;
import java.util.Collections;
import java.util.Deque;
import java.util.List;
import java.util.NoSuchElementException;
import java.util.TreeMap;
import java.util.TreeSet;
import java.util.regex.Matcher;
import java.util.regex.Pattern;

/**
 * The document once more, written another way: it keeps every attempt and counts anew for each
 * answer, copies whole states, and reads programs by a regular expression.
 */
final class Reference {
    private static final String DIGIT = "[0-9]", NUMBER = "[0-9]{1,3}";
    private static final String COMMAND = "(?:(?:give|take|try) " + DIGIT + DIGIT + "|(?:open|shut|lift) " + DIGIT + " "
            + NUMBER + "|(?:moon|wait) " + NUMBER + ")";
    private static final Pattern PROGRAM = Pattern.compile(COMMAND + "(?:;" + COMMAND + ")*");

    private record Door(int phases, int first, int last, int key) {
    }

    private record Attempt(int person, int door, int day, int result) {
    }

    private static final class World {
        int time = 0;
        int cycle = 29;
        List<Door> doors = new ArrayList<>();
        TreeMap<Integer, Boolean> exceptions = new TreeMap<>();
        List<TreeSet<Integer>> rings = new ArrayList<>();
        List<Attempt> attempts = new ArrayList<>();

        World copy() {
            World other = new World();
            other.time = time;
            other.cycle = cycle;
            other.doors.addAll(doors);
            other.exceptions.putAll(exceptions);
            for (TreeSet<Integer> ring : rings) {
                other.rings.add(new TreeSet<>(ring));
            }
            other.attempts.addAll(attempts);
            return other;
        }
    }

    private World world = new World();
    private World saved = null;
    private Deque<World> past = new ArrayDeque<>();
    private boolean inProgram = false;
    private String buffer = "";
    private String notice = "";
    private Integer error = null;
    private Integer failed = null;

    private void modify() {
        if (!inProgram) {
            past.addLast(world.copy());
            if (past.size() > 8) {
                past.removeFirst();
            }
        }
    }

    private Door door(int door) {
        if (door < 0 || door >= world.doors.size()) {
            throw new IndexOutOfBoundsException();
        }
        return world.doors.get(door);
    }

    private TreeSet<Integer> ring(int person) {
        if (person < 0 || person >= world.rings.size()) {
            throw new IndexOutOfBoundsException();
        }
        return world.rings.get(person);
    }

    private static void in(int value, int least, int greatest) {
        if (value < least || value > greatest) {
            throw new IllegalArgumentException();
        }
    }

    private static Door rule(int phases, int first, int last, int key) {
        in(phases, 0, 255);
        in(first, 0, 23);
        in(last, 0, 23);
        in(key, 0, 7);
        return new Door(phases, first, last, key);
    }

    int addDoor(int phases, int first, int last, int key) {
        Door added = rule(phases, first, last, key);
        if (world.doors.size() == 8) {
            throw new IllegalStateException();
        }
        modify();
        world.doors.add(added);
        return world.doors.size() - 1;
    }

    int setRule(int door, int phases, int first, int last, int key) {
        Door before = door(door);
        Door after = rule(phases, first, last, key);
        modify();
        world.doors.set(door, after);
        return before.key;
    }

    int addException(int door, int day, boolean opens) {
        door(door);
        in(day, 0, 999);
        if (day < day()) {
            throw new UnsupportedOperationException();
        }
        if (world.exceptions.containsKey(day * 10 + door) || world.exceptions.size() == 12) {
            throw new IllegalStateException();
        }
        modify();
        world.exceptions.put(day * 10 + door, opens);
        return world.exceptions.size();
    }

    boolean liftException(int door, int day) {
        door(door);
        if (!hasException(door, day)) {
            throw new NoSuchElementException();
        }
        modify();
        return world.exceptions.remove(day * 10 + door);
    }

    int setCycle(int days) {
        in(days, 24, 32);
        modify();
        int before = world.cycle;
        world.cycle = days;
        return before;
    }

    int doorCount() {
        return world.doors.size();
    }

    int phasesOf(int door) {
        return door(door).phases;
    }

    int keyOf(int door) {
        return door(door).key;
    }

    boolean isHourOf(int door, int hour) {
        Door asked = door(door);
        in(hour, 0, 23);
        return (hour - asked.first + 24) % 24 <= (asked.last - asked.first + 24) % 24;
    }

    int hourCount(int door) {
        door(door);
        int count = 0;
        for (int hour = 0; hour < 24; hour++) {
            count += isHourOf(door, hour) ? 1 : 0;
        }
        return count;
    }

    int exceptionCount() {
        return world.exceptions.size();
    }

    boolean hasException(int door, int day) {
        door(door);
        return day >= 0 && day <= 999 && world.exceptions.containsKey(day * 10 + door);
    }

    private int exception(int position) {
        if (position < 0 || position >= world.exceptions.size()) {
            throw new NoSuchElementException();
        }
        return new ArrayList<>(world.exceptions.keySet()).get(position);
    }

    int exceptionDoor(int position) {
        return exception(position) % 10;
    }

    int exceptionDay(int position) {
        return exception(position) / 10;
    }

    int addPerson() {
        if (world.rings.size() == 6) {
            throw new IllegalStateException();
        }
        modify();
        world.rings.add(new TreeSet<>());
        return world.rings.size() - 1;
    }

    int giveKey(int person, int key) {
        ring(person);
        in(key, 0, 7);
        if (ring(person).contains(key)) {
            throw new IllegalStateException();
        }
        modify();
        ring(person).add(key);
        return ring(person).size();
    }

    int takeKey(int person, int key) {
        if (!ring(person).contains(key)) {
            throw new NoSuchElementException();
        }
        modify();
        ring(person).remove(key);
        return ring(person).size();
    }

    int tryDoor(int person, int door) {
        int result = wouldEnter(person, door);
        modify();
        world.attempts.add(new Attempt(person, door, day(), result));
        return result;
    }

    int wouldEnter(int person, int door) {
        TreeSet<Integer> ring = ring(person);
        Door tried = door(door);
        Boolean opens = world.exceptions.get(day() * 10 + door);
        if (opens != null && !opens) {
            return MoonlitDoors.SHUT;
        }
        if (!ring.contains(tried.key)) {
            return MoonlitDoors.NO_KEY;
        }
        if (opens == null && !phaseFits(tried, day())) {
            return MoonlitDoors.WRONG_PHASE;
        }
        return opens == null && !isHourOf(door, hour()) ? MoonlitDoors.WRONG_HOUR : MoonlitDoors.ENTERED;
    }

    int personCount() {
        return world.rings.size();
    }

    boolean hasKey(int person, int key) {
        return ring(person).contains(key);
    }

    int keyAt(int person, int position) {
        List<Integer> keys = new ArrayList<>(ring(person));
        if (position < 0 || position >= keys.size()) {
            throw new NoSuchElementException();
        }
        return keys.get(position);
    }

    int doorsOfRing(int person) {
        TreeSet<Integer> ring = ring(person);
        return (int) world.doors.stream().filter(door -> ring.contains(door.key)).count();
    }

    int personByEntries(int rank) {
        ring(rank);
        List<Integer> order = new ArrayList<>();
        for (int person = 0; person < personCount(); person++) {
            order.add(person);
        }
        order.sort((a, b) -> entriesOf(a) != entriesOf(b) ? entriesOf(b) - entriesOf(a) : a - b);
        return order.get(rank);
    }

    int entriesOf(int person) {
        ring(person);
        return (int) world.attempts.stream().filter(a -> a.person == person && a.result == 0).count();
    }

    int advance(int hours) {
        in(hours, 1, 240);
        modify();
        world.time += hours;
        return day();
    }

    int day() {
        return world.time / 24;
    }

    int hour() {
        return world.time % 24;
    }

    private int phase(int day) {
        return day % world.cycle * 8 / world.cycle;
    }

    private boolean phaseFits(Door door, int day) {
        return (door.phases & 1 << phase(day)) != 0;
    }

    int phaseOn(int day) {
        in(day, 0, 9999);
        return phase(day);
    }

    int daysUntilPhase(int phase) {
        in(phase, 0, 7);
        int day = day() + 1;
        while (phase(day) != phase) {
            day++;
        }
        return day - day();
    }

    private boolean unlocked(int door, int time) {
        Boolean opens = world.exceptions.get(time / 24 * 10 + door);
        return opens != null ? opens : phaseFits(door(door), time / 24) && isHourOf(door, time % 24);
    }

    boolean isUnlocked(int door) {
        door(door);
        return unlocked(door, world.time);
    }

    int hoursUntilUnlocked(int door) {
        door(door);
        for (int hours = 0; hours < 1001; hours++) {
            if (unlocked(door, world.time + hours)) {
                return hours;
            }
        }
        throw new NoSuchElementException();
    }

    int unlockedHours(int door, int days) {
        door(door);
        in(days, 1, 99);
        int count = 0;
        for (int time = day() * 24; time < (day() + days) * 24; time++) {
            count += unlocked(door, time) ? 1 : 0;
        }
        return count;
    }

    int openDoorsFor(int person) {
        ring(person);
        int count = 0;
        for (int door = 0; door < doorCount(); door++) {
            count += wouldEnter(person, door) == 0 ? 1 : 0;
        }
        return count;
    }

    int countOn(int door, int daysAgo, boolean entries) {
        door(door);
        in(daysAgo, 0, 7);
        return (int) world.attempts.stream()
                .filter(a -> a.door == door && a.day == day() - daysAgo && (a.result == 0) == entries).count();
    }

    private Attempt logged(int recency) {
        if (recency < 0 || recency >= Math.min(10, world.attempts.size())) {
            throw new NoSuchElementException();
        }
        List<Attempt> latestFirst = new ArrayList<>(world.attempts);
        Collections.reverse(latestFirst);
        return latestFirst.get(recency);
    }

    int loggedPerson(int recency) {
        return logged(recency).person;
    }

    int loggedDoor(int recency) {
        return logged(recency).door;
    }

    int loggedResult(int recency) {
        return logged(recency).result;
    }

    int attemptsWith(int result) {
        in(result, 0, 4);
        return (int) world.attempts.stream().filter(a -> a.result == result).count();
    }

    double entryShare() {
        if (world.attempts.isEmpty()) {
            throw new ArithmeticException();
        }
        return (double) attemptsWith(0) / world.attempts.size();
    }

    int writeNotice(int door) {
        Door shown = door(door);
        String phases = "";
        for (int phase = 0; phase < 8; phase++) {
            phases += (shown.phases >> phase) % 2 == 1 ? phase : "";
        }
        notice = "d" + door + " " + (phases.isEmpty() ? "-" : phases) + " " + shown.first + "-" + shown.last + " k"
                + shown.key + (isUnlocked(door) ? "!" : "");
        return notice.length();
    }

    char noticeAt(int index) {
        if (index < 0 || index >= notice.length()) {
            throw new IndexOutOfBoundsException();
        }
        return notice.charAt(index);
    }

    int type(char character) {
        in(character, 32, 126);
        if (buffer.length() == 60) {
            throw new IllegalStateException();
        }
        buffer += character;
        return buffer.length();
    }

    int execute() {
        String text = buffer;
        buffer = "";
        if (!PROGRAM.matcher(text).matches()) {
            error = firstWrong(text);
            throw new IllegalArgumentException();
        }
        String[] commands = text.split(";");
        World before = world.copy();
        inProgram = true;
        for (int i = 0; i < commands.length && inProgram; i++) {
            try {
                run(commands[i]);
            } catch (RuntimeException e) {
                failed = i;
                inProgram = false;
            }
        }
        if (!inProgram) {
            world = before;
            throw new IllegalStateException();
        }
        inProgram = false;
        World after = world;
        world = before;
        modify();
        world = after;
        return commands.length;
    }

    /** The end of the longest beginning that more characters could make a program of. */
    private static int firstWrong(String text) {
        int end = 0;
        while (end < text.length()) {
            Matcher matcher = PROGRAM.matcher(text.substring(0, end + 1));
            if (!matcher.matches() && !matcher.hitEnd()) {
                break;
            }
            end++;
        }
        return end;
    }

    private void run(String command) {
        String[] words = command.split(" ");
        int one = Integer.parseInt(words[1]);
        switch (words[0]) {
            case "give" -> giveKey(one / 10, one % 10);
            case "take" -> takeKey(one / 10, one % 10);
            case "try" -> tryDoor(one / 10, one % 10);
            case "open" -> addException(one, Integer.parseInt(words[2]), true);
            case "shut" -> addException(one, Integer.parseInt(words[2]), false);
            case "lift" -> liftException(one, Integer.parseInt(words[2]));
            case "moon" -> setCycle(one);
            default -> advance(one);
        }
    }

    int errorPosition() {
        if (error == null) {
            throw new NoSuchElementException();
        }
        return error;
    }

    int failedCommand() {
        if (failed == null) {
            throw new NoSuchElementException();
        }
        return failed;
    }

    int undo() {
        if (past.isEmpty()) {
            throw new IllegalStateException();
        }
        world = past.removeLast();
        return past.size();
    }

    int save() {
        saved = world.copy();
        return world.attempts.size();
    }

    int restore() {
        if (saved == null) {
            throw new IllegalStateException();
        }
        world = saved.copy();
        past.clear();
        return world.attempts.size();
    }
}
