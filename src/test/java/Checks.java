/** What the tests of the project share: they note each answer that is not due, and end with 1 if there was one. */
final class Checks {
    /** A call that answers a number or throws. */
    interface Call {
        long answer();
    }

    static final String ARGUMENT = "IllegalArgumentException";
    static final String STATE = "IllegalStateException";
    static final String INDEX = "IndexOutOfBoundsException";

    private static final int MOST_PRINTED = 20;
    private static int checked = 0;
    private static int wrong = 0;

    private Checks() {
    }

    static void same(String what, Object due, Object got) {
        checked++;
        if (!due.equals(got)) {
            wrong++;
            if (wrong <= MOST_PRINTED) {
                System.out.println(what + ": answered " + got + ", due is " + due);
            }
        }
    }

    static void answers(String what, long due, Call call) {
        same(what, Long.toString(due), outcome(call));
    }

    /** Due is the very exception, and that the object is as before. */
    static void throwsIt(String what, String due, TheatreWall wall, Call call) {
        long before = wall.digest();
        same(what, "throws." + due, outcome(call));
        same(what + " leaves all as it was", before, wall.digest());
    }

    static String outcome(Call call) {
        try {
            return Long.toString(call.answer());
        } catch (RuntimeException e) {
            return "throws." + e.getClass().getSimpleName();
        }
    }

    static void type(TheatreWall wall, String text) {
        for (char c : text.toCharArray()) {
            wall.append(c);
        }
    }

    static boolean isAllRight() {
        return wrong == 0;
    }

    static void end(String name) {
        System.out.println(name + ": " + checked + " answers looked at, " + wrong + " not as due");
        if (wrong != 0) {
            System.exit(1);
        }
    }
}
