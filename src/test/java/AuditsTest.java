/** Promises 37 to 43: the counts of attempts and the log. */
public final class AuditsTest {
    private static final int MIN = Integer.MIN_VALUE, MAX = Integer.MAX_VALUE;

    public static void main(String[] args) {
        promises37And38Days();
        promises37And38Forgotten();
        promises37And38EveryDoor();
        promises37And38Wrong();
        promises39To41Log();
        promise42AttemptsWith();
        promise43EntryShare();
        Checks.finish();
    }

    private static MoonlitDoors twoDoors() {
        MoonlitDoors x = new MoonlitDoors();
        x.addDoor(255, 0, 23, 0);
        x.addDoor(255, 0, 23, 1);
        x.addPerson();
        x.addPerson();
        x.giveKey(0, 0);
        return x;
    }

    private static void attempts(MoonlitDoors x, int entries, int refusals) {
        for (int i = 0; i < entries; i++) {
            x.tryDoor(0, 0);
        }
        for (int i = 0; i < refusals; i++) {
            x.tryDoor(1, 0);
        }
    }

    private static void promises37And38Days() {
        MoonlitDoors x = twoDoors();
        for (int day = 0; day < 20; day++) {
            attempts(x, day % 5, day % 3);
            x.tryDoor(0, 1);
            for (int ago = 0; ago < 8; ago++) {
                int then = day - ago;
                Checks.due("37 day " + day + " ago " + ago, x.entriesOn(0, ago), then < 0 ? 0 : then % 5);
                Checks.due("38 day " + day + " ago " + ago, x.refusalsOn(0, ago), then < 0 ? 0 : then % 3);
                Checks.due("37 other door", x.entriesOn(1, ago), 0);
                Checks.due("38 other door", x.refusalsOn(1, ago), then < 0 ? 0 : 1);
            }
            x.advance(24);
        }
    }

    private static void promises37And38Forgotten() {
        for (int days = 0; days <= 10; days++) {
            MoonlitDoors x = twoDoors();
            attempts(x, 2, 3);
            if (days > 0) {
                x.advance(24 * days);
            }
            for (int ago = 0; ago < 8; ago++) {
                Checks.due("37 after " + days + " ago " + ago, x.entriesOn(0, ago), ago == days ? 2 : 0);
                Checks.due("38 after " + days + " ago " + ago, x.refusalsOn(0, ago), ago == days ? 3 : 0);
            }
        }
        MoonlitDoors x = twoDoors();
        attempts(x, 1, 1);
        x.advance(23);
        attempts(x, 1, 1);
        Checks.due("37 the same day", x.entriesOn(0, 0), 2);
        x.advance(169);
        Checks.due("37 the eighth day", x.entriesOn(0, 0), 0);
        x.undo();
        Checks.due("37 back by undo", x.entriesOn(0, 0), 2);
        Checks.due("38 back by undo", x.refusalsOn(0, 0), 2);
    }

    private static void promises37And38EveryDoor() {
        for (int last : new int[] {0, 3, 7, 8, 9, 15}) {
            MoonlitDoors x = new MoonlitDoors();
            for (int door = 0; door < 8; door++) {
                x.addDoor(255, 0, 23, 0);
            }
            x.addPerson();
            x.addPerson();
            x.giveKey(0, 0);
            for (int day = 0; day <= last; day++) {
                for (int i = 0; i < 12; i++) {
                    x.tryDoor(i % 2, triedDoor(day, i));
                }
                x.advance(day < last ? 24 : 23);
            }
            for (int door = 0; door < 8; door++) {
                for (int ago = 0; ago < 8; ago++) {
                    String place = "day " + last + " door " + door + " ago " + ago;
                    Checks.due("37 " + place, x.entriesOn(door, ago), attemptsOf(0, last - ago, door));
                    Checks.due("38 " + place, x.refusalsOn(door, ago), attemptsOf(1, last - ago, door));
                }
            }
        }
    }

    private static int triedDoor(int day, int attempt) {
        return (day + attempt * attempt / 3) % 8;
    }

    private static int attemptsOf(int person, int day, int door) {
        int times = 0;
        for (int i = person; i < 12 && day >= 0; i += 2) {
            times += triedDoor(day, i) == door ? 1 : 0;
        }
        return times;
    }

    private static void promises37And38Wrong() {
        MoonlitDoors x = twoDoors();
        for (int wrong : new int[] {-1, 2, 8, MIN, MAX}) {
            Checks.fails("37 door before days", Checks.INDEX, () -> x.entriesOn(wrong, 8));
            Checks.fails("38 door before days", Checks.INDEX, () -> x.refusalsOn(wrong, 8));
        }
        for (int wrong : new int[] {-1, 8, MIN, MAX}) {
            Checks.fails("37 days " + wrong, Checks.ARGUMENT, () -> x.entriesOn(1, wrong));
            Checks.fails("38 days " + wrong, Checks.ARGUMENT, () -> x.refusalsOn(1, wrong));
        }
    }

    private static void promises39To41Log() {
        MoonlitDoors x = twoDoors();
        int[][] made = new int[27][];
        for (int i = 0; i < made.length; i++) {
            for (int recency = -1; recency <= 11; recency++) {
                logged(x, recency, recency >= 0 && recency < 10 && recency < i ? made[i - 1 - recency] : null);
            }
            int person = i * 5 % 3 == 0 ? 1 : 0;
            int door = i * 7 % 4 == 0 ? 1 : 0;
            made[i] = new int[] {person, door, x.tryDoor(person, door)};
        }
        logged(x, MIN, null);
        logged(x, MAX, null);
        x.advance(240);
        logged(x, 9, made[17]);
        logged(x, 0, made[26]);
    }

    private static void logged(MoonlitDoors x, int recency, int[] due) {
        if (due == null) {
            Checks.fails("39 recency " + recency, Checks.ELEMENT, () -> x.loggedPerson(recency));
            Checks.fails("40 recency " + recency, Checks.ELEMENT, () -> x.loggedDoor(recency));
            Checks.fails("41 recency " + recency, Checks.ELEMENT, () -> x.loggedResult(recency));
        } else {
            Checks.due("39 recency " + recency, x.loggedPerson(recency), due[0]);
            Checks.due("40 recency " + recency, x.loggedDoor(recency), due[1]);
            Checks.due("41 recency " + recency, x.loggedResult(recency), due[2]);
        }
    }

    private static void promise42AttemptsWith() {
        MoonlitDoors x = new MoonlitDoors();
        x.addPerson();
        x.giveKey(0, 0);
        x.addDoor(255, 0, 23, 0);
        x.addDoor(255, 0, 23, 0);
        x.addException(1, 0, false);
        x.addDoor(255, 0, 23, 1);
        x.addDoor(0, 0, 23, 0);
        x.addDoor(255, 1, 23, 0);
        for (int door = 0; door < 5; door++) {
            Checks.due("42 none", x.attemptsWith(door), 0);
            for (int i = 0; i <= door; i++) {
                Checks.due("42 result", x.tryDoor(0, door), door);
            }
            Checks.due("42 some", x.attemptsWith(door), door + 1);
        }
        x.advance(240);
        Checks.due("42 so far", x.attemptsWith(3), 4);
        for (int wrong : new int[] {-1, 5, MIN, MAX}) {
            Checks.fails("42 result " + wrong, Checks.ARGUMENT, () -> x.attemptsWith(wrong));
        }
    }

    private static void promise43EntryShare() {
        MoonlitDoors x = twoDoors();
        Checks.fails("43 no attempts", Checks.ARITHMETIC, x::entryShare);
        x.tryDoor(1, 0);
        Checks.due("43 none", x.entryShare(), 0.0);
        x.tryDoor(0, 0);
        Checks.due("43 half", x.entryShare(), 0.5);
        x.tryDoor(1, 0);
        Checks.due("43 a third", x.entryShare(), 1.0 / 3.0);
        x.advance(240);
        Checks.due("43 so far", x.entryShare(), 1.0 / 3.0);
        for (int i = 0; i < 3; i++) {
            x.undo();
        }
        x.undo();
        Checks.fails("43 all undone", Checks.ARITHMETIC, x::entryShare);
    }
}
