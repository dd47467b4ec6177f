import java.lang.reflect.Constructor;
import java.lang.reflect.Field;
import java.lang.reflect.Method;
import java.lang.reflect.Modifier;
import java.util.Set;
import java.util.TreeSet;

/** The public face: exactly the members that the document names, with their throws, and no other name used twice. */
public final class FaceTest {
    private static final Set<String> FACE = face();

    public static void main(String[] args) {
        methods();
        constants();
        constructors();
        names();
        Checks.finish();
    }

    /** The document's methods, each as signature writes it. */
    private static Set<String> face() {
        Set<String> found = new TreeSet<>();
        for (String line : Document.linesOf(Document.TERMS)) {
            String text = line.strip();
            if (text.startsWith("public ") && text.endsWith(";") && text.contains("(") && !text.startsWith("public MoonlitDoors(")) {
                found.add(text.substring("public ".length(), text.length() - 1).replaceAll("\\b(int|boolean|char) \\w+(?=[,)])", "$1"));
            }
        }
        return found;
    }

    private static void methods() {
        Set<String> found = new TreeSet<>();
        for (Method method : MoonlitDoors.class.getDeclaredMethods()) {
            if (!Modifier.isPrivate(method.getModifiers())) {
                Checks.due(method + " is public and no static one", Modifier.isPublic(method.getModifiers())
                        && !Modifier.isStatic(method.getModifiers()), true);
                found.add(signature(method));
            }
        }
        Checks.due("the number of methods in the document", FACE.size(), 51);
        Checks.due("the number of public methods", found.size(), 51);
        for (String due : FACE) {
            Checks.due("the class has " + due, found.contains(due), true);
        }
    }

    private static String signature(Method method) {
        String text = method.getReturnType().getName() + " " + method.getName() + "(" + simpleNames(method.getParameterTypes()) + ")";
        return method.getExceptionTypes().length == 0 ? text : text + " throws " + simpleNames(method.getExceptionTypes());
    }

    private static String simpleNames(Class<?>[] types) {
        StringBuilder text = new StringBuilder();
        for (Class<?> type : types) {
            text.append(text.length() == 0 ? "" : ", ").append(type.getSimpleName());
        }
        return text.toString();
    }

    private static void constants() {
        Set<String> found = new TreeSet<>();
        for (Field field : MoonlitDoors.class.getDeclaredFields()) {
            if (!Modifier.isPrivate(field.getModifiers())) {
                found.add(Modifier.toString(field.getModifiers()) + " " + field.getName());
            }
        }
        Set<String> due = new TreeSet<>();
        for (String name : new String[] {"ENTERED", "SHUT", "NO_KEY", "WRONG_PHASE", "WRONG_HOUR"}) {
            due.add("public static final " + name);
        }
        Checks.due("the public constants", found, due);
        Checks.due("ENTERED", MoonlitDoors.ENTERED, 0);
        Checks.due("SHUT", MoonlitDoors.SHUT, 1);
        Checks.due("NO_KEY", MoonlitDoors.NO_KEY, 2);
        Checks.due("WRONG_PHASE", MoonlitDoors.WRONG_PHASE, 3);
        Checks.due("WRONG_HOUR", MoonlitDoors.WRONG_HOUR, 4);
    }

    private static void constructors() {
        Constructor<?>[] found = MoonlitDoors.class.getDeclaredConstructors();
        Checks.due("the number of constructors", found.length, 1);
        Checks.due("the constructor's parameters", found[0].getParameterCount(), 0);
        Checks.due("the constructor is public", Modifier.isPublic(found[0].getModifiers()), true);
        Checks.due("the class is final", Modifier.isFinal(MoonlitDoors.class.getModifiers()), true);
    }

    /** LANGUAGE.md, rule 1: no private method bears the name of a public one. */
    private static void names() {
        Set<String> face = new TreeSet<>();
        for (String line : FACE) {
            face.add(line.substring(line.indexOf(' ') + 1, line.indexOf('(')));
        }
        for (Method method : MoonlitDoors.class.getDeclaredMethods()) {
            if (Modifier.isPrivate(method.getModifiers())) {
                Checks.due(method + " bears a public name", face.contains(method.getName()), false);
            }
        }
        for (Class<?> inner : MoonlitDoors.class.getDeclaredClasses()) {
            Checks.due(inner + " is public", Modifier.isPublic(inner.getModifiers()), false);
            for (Method method : inner.getDeclaredMethods()) {
                Checks.due(method + " bears a public name", face.contains(method.getName()), false);
            }
        }
    }
}
