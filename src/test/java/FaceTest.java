import java.lang.reflect.Constructor;
import java.lang.reflect.Field;
import java.lang.reflect.Method;
import java.lang.reflect.Modifier;
import java.util.Set;
import java.util.TreeSet;

/** The public face: exactly the members that the document names, and no other name used twice. */
public final class FaceTest {
    private static final String[] FACE = {
        "int addDoor(int, int, int, int)", "int setRule(int, int, int, int, int)",
        "int addException(int, int, boolean)", "boolean liftException(int, int)", "int setCycle(int)",
        "int doorCount()", "int phasesOf(int)", "int keyOf(int)", "boolean isHourOf(int, int)",
        "int hourCount(int)", "int exceptionCount()", "boolean hasException(int, int)",
        "int exceptionDoor(int)", "int exceptionDay(int)", "int addPerson()", "int giveKey(int, int)",
        "int takeKey(int, int)", "int tryDoor(int, int)", "int wouldEnter(int, int)", "int personCount()",
        "boolean hasKey(int, int)", "int keyAt(int, int)", "int doorsOfRing(int)", "int personByEntries(int)",
        "int entriesOf(int)", "int advance(int)", "int day()", "int hour()", "int phaseOn(int)",
        "int daysUntilPhase(int)", "boolean isUnlocked(int)", "int hoursUntilUnlocked(int)",
        "int hoursUntilUnlockedByDays(int)", "int unlockedHours(int, int)", "int openDoorsFor(int)",
        "int entriesOn(int, int)", "int refusalsOn(int, int)", "int loggedPerson(int)", "int loggedDoor(int)",
        "int loggedResult(int)", "int attemptsWith(int)", "double entryShare()", "int writeNotice(int)",
        "char noticeAt(int)", "int type(char)", "int execute()", "int errorPosition()", "int failedCommand()",
        "int undo()", "int save()", "int restore()"
    };

    public static void main(String[] args) {
        methods();
        constants();
        constructors();
        names();
        Checks.finish();
    }

    private static void methods() {
        Set<String> found = new TreeSet<>();
        for (Method method : MoonlitDoors.class.getDeclaredMethods()) {
            if (!Modifier.isPrivate(method.getModifiers())) {
                Checks.due(method + " is public and no static one", Modifier.isPublic(method.getModifiers())
                        && !Modifier.isStatic(method.getModifiers()), true);
                found.add(signature(method));
            }
        }
        Checks.due("the public methods", found, new TreeSet<>(Set.of(FACE)));
    }

    private static String signature(Method method) {
        StringBuilder text = new StringBuilder(method.getReturnType().getName());
        text.append(' ').append(method.getName()).append('(');
        String comma = "";
        for (Class<?> parameter : method.getParameterTypes()) {
            text.append(comma).append(parameter.getName());
            comma = ", ";
        }
        return text.append(')').toString();
    }

    private static void constants() {
        Set<String> found = new TreeSet<>();
        for (Field field : MoonlitDoors.class.getDeclaredFields()) {
            if (!Modifier.isPrivate(field.getModifiers())) {
                found.add(Modifier.toString(field.getModifiers()) + " " + field.getName());
            }
        }
        Set<String> due = new TreeSet<>();
        for (String name : new String[] {"ENTERED", "SHUT", "NO_KEY", "WRONG_PHASE", "WRONG_HOUR"}) {
            due.add("public static final " + name);
        }
        Checks.due("the public constants", found, due);
        Checks.due("ENTERED", MoonlitDoors.ENTERED, 0);
        Checks.due("SHUT", MoonlitDoors.SHUT, 1);
        Checks.due("NO_KEY", MoonlitDoors.NO_KEY, 2);
        Checks.due("WRONG_PHASE", MoonlitDoors.WRONG_PHASE, 3);
        Checks.due("WRONG_HOUR", MoonlitDoors.WRONG_HOUR, 4);
    }

    private static void constructors() {
        Constructor<?>[] found = MoonlitDoors.class.getDeclaredConstructors();
        Checks.due("the number of constructors", found.length, 1);
        Checks.due("the constructor's parameters", found[0].getParameterCount(), 0);
        Checks.due("the constructor is public", Modifier.isPublic(found[0].getModifiers()), true);
        Checks.due("the class is final", Modifier.isFinal(MoonlitDoors.class.getModifiers()), true);
    }

    /** LANGUAGE.md, rule 1: no private method bears the name of a public one. */
    private static void names() {
        Set<String> face = new TreeSet<>();
        for (String line : FACE) {
            face.add(line.substring(line.indexOf(' ') + 1, line.indexOf('(')));
        }
        for (Method method : MoonlitDoors.class.getDeclaredMethods()) {
            if (Modifier.isPrivate(method.getModifiers())) {
                Checks.due(method + " bears a public name", face.contains(method.getName()), false);
            }
        }
        for (Class<?> inner : MoonlitDoors.class.getDeclaredClasses()) {
            Checks.due(inner + " is public", Modifier.isPublic(inner.getModifiers()), false);
            for (Method method : inner.getDeclaredMethods()) {
                Checks.due(method + " bears a public name", face.contains(method.getName()), false);
            }
        }
    }
}
