import java.io.IOException;
import java.nio.file.Files;
import java.nio.file.Path;

/** What the tests of the project share: they note each answer that is not due, and end with 1 if there was one. */
abstract class Checks {
    /** A call that answers a number or throws. */
    interface Call {
        long answer();
    }

    /** A call of the wall that it is given. */
    interface CallOf {
        long answer(TheatreWall wall);
    }

    /** Makes a wall, each time the same one. */
    interface Maker {
        TheatreWall make();
    }

    static final int NONE = TheatreWall.NONE;
    static final String ARGUMENT = "IllegalArgumentException";
    static final String STATE = "IllegalStateException";
    static final String INDEX = "IndexOutOfBoundsException";

    private static final Path DOCUMENT = Path.of("../shared/DOC.md");
    private static final int MOST_PRINTED = 20;
    private static final int MOST_SAVED = 6;
    private static int checked = 0;
    private static int wrong = 0;
    private static String sentence = "";
    private static String document = null;

    Checks() {
    }

    static void same(String what, Object due, Object got) {
        checked++;
        if (!due.equals(got)) {
            wrong++;
            if (wrong <= MOST_PRINTED) {
                System.out.println(sentence + what + ": answered " + got + ", due is " + due);
            }
        }
    }

    /** The sentence that the following answers are due by; it must stand in the document. */
    static void said(String quote) {
        sentence = "\"" + quote + "\": ";
        same("stands in the document", true, document().contains(quote));
    }

    static String document() {
        if (document == null) {
            try {
                document = Files.readString(DOCUMENT);
            } catch (IOException e) {
                throw new IllegalStateException("no document " + DOCUMENT + " (the tests run in the checkout)", e);
            }
        }
        return document;
    }

    static void due(String what, long due, Call call) {
        same(what, Long.toString(due), outcome(call));
    }

    /** Due is the very exception, and that the object is as before. */
    static void fails(String what, String due, TheatreWall wall, Call call) {
        long before = wall.digest();
        same(what, "throws." + due, outcome(call));
        same(what + " leaves all as it was", before, wall.digest());
    }

    /**
     * Due is the very exception, and that the wall answers then as one that was not asked for the call does,
     * behind each undo too: so it is seen that the saved states are as before.
     */
    static void refused(String what, String due, Maker maker, CallOf call) {
        TheatreWall wall = maker.make();
        TheatreWall twin = maker.make();
        same(what, "throws." + due, outcome(() -> call.answer(wall)));
        alike(what + " changes nothing", twin, wall);
    }

    static void alike(String what, TheatreWall due, TheatreWall got) {
        for (int left = MOST_SAVED; left >= 0; left--) {
            same(what, due.digest(), got.digest());
            same(what + ", undo", outcome(due::undo), outcome(got::undo));
        }
        same(what + ", the buffer", due.clearBuffer(), got.clearBuffer());
    }

    /** Numbers that are not from least to most: just beside it, far off, and such that wrap into it. */
    static int[] outside(int least, int most) {
        return new int[] {least - 1, most + 1, least - 2, most + 256, least + 65536, least - 65536,
            Integer.MIN_VALUE, Integer.MIN_VALUE + 1, Integer.MAX_VALUE, Integer.MAX_VALUE - 1};
    }

    static String outcome(Call call) {
        try {
            return Long.toString(call.answer());
        } catch (RuntimeException e) {
            return "throws." + e.getClass().getSimpleName();
        }
    }

    static void type(TheatreWall wall, String text) {
        for (char c : text.toCharArray()) {
            wall.append(c);
        }
    }

    /** A wall of tasks of these lengths, that have no person and no hall. */
    static TheatreWall wallOf(int... lengths) {
        return wallWith(NONE, NONE, lengths);
    }

    /** A wall of tasks of these lengths, that all have the person 0. */
    static TheatreWall queueOf(int... lengths) {
        return wallWith(0, NONE, lengths);
    }

    /** A wall of tasks of these lengths, that are all in the hall 0. */
    static TheatreWall hallOf(int... lengths) {
        return wallWith(NONE, 0, lengths);
    }

    static TheatreWall wallWith(int person, int hall, int... lengths) {
        TheatreWall wall = new TheatreWall();
        for (int length : lengths) {
            wall.add(length, person, hall);
        }
        return wall;
    }

    static void begins(String what, TheatreWall wall, int... due) {
        properties(what + ", begin", wall, 6, due);
    }

    /** One property of each task. */
    static void properties(String what, TheatreWall wall, int property, int... due) {
        for (int task = 0; task < due.length; task++) {
            int number = task;
            due(what + " of " + task, due[task], () -> wall.task(number, property));
        }
    }

    static boolean isAllRight() {
        return wrong == 0;
    }

    static void end(String name) {
        System.out.println(name + ": " + checked + " answers looked at, " + wrong + " not as due");
        if (wrong != 0) {
            System.exit(1);
        }
    }
}
