import java.util.Random;

/**
 * LANGUAGE.md, rule 7: whatever the arguments and the state, a call ends, and what it throws is of
 * exactly a class that the document names; here far behind the 512th call, where the time overflows.
 */
public final class EnduranceTest {
    private static final String NAMED = "java.lang.IllegalArgumentException java.lang.IllegalStateException "
            + "java.lang.IndexOutOfBoundsException java.lang.UnsupportedOperationException java.lang.ArithmeticException "
            + "java.util.NoSuchElementException";

    private static final Random RANDOM = new Random(52);

    public static void main(String[] args) {
        MoonlitDoors x = new MoonlitDoors();
        everyCall(x);
        fill(x);
        everyCall(x);
        long time = x.day() * 24L + x.hour();
        while (time + 500 < Integer.MAX_VALUE) {
            x.advance(240);
            time += 240;
        }
        for (int i = 0; i < 60; i++) {
            everyCall(x);
            x.advance(20);
        }
        Checks.finish();
    }

    private static void fill(MoonlitDoors x) {
        for (int i = 0; i < 8; i++) {
            int door = i;
            Checks.outcome(() -> x.addDoor(1 << door, 20, 3, door));
            Checks.outcome(x::addPerson);
            Checks.outcome(() -> x.giveKey(door, door));
            Checks.outcome(() -> x.addException(door, 40, door % 2 == 0));
            Checks.outcome(() -> x.tryDoor(door, door));
        }
    }

    private static int any() {
        int kind = RANDOM.nextInt(3);
        return kind == 0 ? RANDOM.nextInt() : kind == 1 ? RANDOM.nextInt(12) - 2 : RANDOM.nextInt(300) - 20;
    }

    private static void everyCall(MoonlitDoors x) {
        for (int i = 0; i < 40; i++) {
            changes(x, any(), any(), any(), any(), any());
            asks(x, any(), any());
        }
    }

    private static void named(Checks.Call call) {
        Object outcome = Checks.outcome(call);
        Checks.due("outcome " + outcome, !(outcome instanceof String) || NAMED.contains((String) outcome), true);
    }

    private static void changes(MoonlitDoors x, int a, int b, int c, int d, int e) {
        named(() -> x.addDoor(a, b, c, d));
        named(() -> x.setRule(a, b, c, d, e));
        named(() -> x.addException(a, b, c % 2 == 0));
        named(() -> x.liftException(a, b));
        named(() -> x.setCycle(a));
        named(x::addPerson);
        named(() -> x.giveKey(a, b));
        named(() -> x.takeKey(a, b));
        named(() -> x.tryDoor(a, b));
        named(() -> x.advance(a));
        named(() -> x.type((char) a));
        named(x::undo);
        named(x::save);
        named(x::execute);
        named(() -> Checks.execute(x, "try 00;wait 20;moon 30"));
        if (a % 16 == 0) {
            named(x::restore);
        }
    }

    private static void asks(MoonlitDoors x, int a, int b) {
        named(x::doorCount);
        named(() -> x.phasesOf(a));
        named(() -> x.keyOf(a));
        named(() -> x.isHourOf(a, b));
        named(() -> x.hourCount(a));
        named(x::exceptionCount);
        named(() -> x.hasException(a, b));
        named(() -> x.exceptionDoor(a));
        named(() -> x.exceptionDay(a));
        named(() -> x.wouldEnter(a, b));
        named(x::personCount);
        named(() -> x.hasKey(a, b));
        named(() -> x.keyAt(a, b));
        named(() -> x.doorsOfRing(a));
        named(() -> x.personByEntries(a));
        named(() -> x.entriesOf(a));
        named(x::day);
        named(x::hour);
        named(() -> x.phaseOn(a));
        named(() -> x.daysUntilPhase(a));
        named(() -> x.isUnlocked(a));
        named(() -> x.hoursUntilUnlocked(a));
        named(() -> x.hoursUntilUnlockedByDays(a));
        named(() -> x.unlockedHours(a, b));
        named(() -> x.openDoorsFor(a));
        named(() -> x.entriesOn(a, b));
        named(() -> x.refusalsOn(a, b));
        named(() -> x.loggedPerson(a));
        named(() -> x.loggedDoor(a));
        named(() -> x.loggedResult(a));
        named(() -> x.attemptsWith(a));
        named(x::entryShare);
        named(() -> x.writeNotice(a));
        named(() -> x.noticeAt(a));
        named(x::errorPosition);
        named(x::failedCommand);
    }
}
