import java.util.NoSuchElementException;

/** Counts the answers that are not due, and ends the run of a test by them. */
final class Checks {
    interface Call {
        Object answer();
    }

    static final Class<? extends RuntimeException> INDEX = IndexOutOfBoundsException.class;
    static final Class<? extends RuntimeException> ARGUMENT = IllegalArgumentException.class;
    static final Class<? extends RuntimeException> STATE = IllegalStateException.class;
    static final Class<? extends RuntimeException> ELEMENT = NoSuchElementException.class;
    static final Class<? extends RuntimeException> UNSUPPORTED = UnsupportedOperationException.class;
    static final Class<? extends RuntimeException> ARITHMETIC = ArithmeticException.class;

    private static int made = 0;
    private static int wrong = 0;

    private Checks() {
    }

    static int made() {
        return made;
    }

    static int wrong() {
        return wrong;
    }

    static void due(String what, Object got, Object want) {
        made++;
        if (!want.equals(got)) {
            wrong++;
            System.out.println(what + " answered " + got + ", due is " + want);
        }
    }

    /** The class has to match exactly: a class below it would be one that the machine throws. */
    static void fails(String what, Class<? extends RuntimeException> want, Call call) {
        due(what, outcome(call), want.getName());
    }

    /** The answer of a call, or the name of what it throws. */
    static Object outcome(Call call) {
        try {
            return call.answer();
        } catch (RuntimeException e) {
            return e.getClass().getName();
        }
    }

    static void type(MoonlitDoors doors, String text) {
        for (int i = 0; i < text.length(); i++) {
            doors.type(text.charAt(i));
        }
    }

    static Object execute(MoonlitDoors doors, String text) {
        type(doors, text);
        return outcome(doors::execute);
    }

    static String notice(MoonlitDoors doors, int door) {
        int length = doors.writeNotice(door);
        StringBuilder text = new StringBuilder();
        for (int i = 0; i < length; i++) {
            text.append(doors.noticeAt(i));
        }
        return text.toString();
    }

    static void finish() {
        System.out.println(made + " checks, " + wrong + " wrong");
        System.exit(wrong == 0 && made > 0 ? 0 : 1);
    }
}
