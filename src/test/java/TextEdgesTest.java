/** The boundary cases that the document names for the buffer, texts, undo and exceptions, sentence by sentence. */
public final class TextEdgesTest extends Checks {
    private static final String TWELVE = "d1;d1;d1;d1;d1;d1;d1;d1;d1;d1;d1;d1";

    private TextEdgesTest() {
    }

    public static void main(String[] args) {
        bufferSize();
        codes();
        cleared();
        partsOfText();
        needsOfText();
        anyLength();
        noMatterOfSyntax();
        firstError();
        notComplete();
        added();
        tooMany();
        notAhead();
        undoable();
        unchanged();
        notUndoable();
        allButTheBuffer();
        sixSaved();
        undone();
        end("TextEdgesTest");
    }

    private static TheatreWall typed(String text) {
        TheatreWall wall = new TheatreWall();
        type(wall, text);
        return wall;
    }

    private static String times(int times, String text) {
        return text.repeat(times);
    }

    private static void bufferSize() {
        said("The buffer has at most 60 characters.");
        TheatreWall wall = new TheatreWall();
        for (int length = 1; length <= 60; length++) {
            due("the new length", length, () -> wall.append('~'));
        }
        said("Throws `IllegalStateException` if the buffer has 60 characters");
        Maker full = () -> typed(times(60, "!"));
        refused("a 61st", STATE, full, w -> w.append('!'));
        refused("a 61st at the end of a good text", STATE, () -> typed(times(19, "d1;") + "d1p"), w -> w.append('1'));
        wall.clearBuffer();
        due("room again", 1, () -> wall.append('~'));

        // 60 characters, that are complete.
        TheatreWall added = typed(times(11, "d1p0;") + "d9nab");
        due("a full buffer has no error", 60, added::firstError);
        due("a full buffer is added", 12, added::addAll);
        properties("lengths", added, 0, 1, 1, 1, 1, 1, 1, 1, 1, 1, 1, 1, 9);
        due("what the last character told", 0b11, () -> added.task(11, 4));
        due("room behind addAll", 1, () -> added.append('d'));
    }

    private static void codes() {
        said("`code`: the character code, 33 to 126");
        TheatreWall least = new TheatreWall();
        due("the least", 1, () -> least.append(33));
        TheatreWall greatest = new TheatreWall();
        due("the greatest", 1, () -> greatest.append(126));
        said("Throws `IllegalArgumentException` if code is not 33 to 126");
        for (int code : outside(33, 126)) {
            refused("code " + code, ARGUMENT, () -> typed("d1"), w -> w.append(code));
            refused("code " + code + " in a full buffer", ARGUMENT, () -> typed(times(60, "d")), w -> w.append(code));
        }
        for (int code : new int[] {0, 32, 127, 128, 255, 'd' + 256, 'd' + 65536, 'd' - 65536, '1' - 128}) {
            refused("code " + code, ARGUMENT, TheatreWall::new, w -> w.append(code));
        }
    }

    private static void cleared() {
        said("Returns the length that it had.");
        for (int length : new int[] {0, 1, 59, 60}) {
            TheatreWall wall = typed(times(length, "x"));
            due("clear " + length, length, wall::clearBuffer);
            due("clear nothing", 0, wall::clearBuffer);
            due("no error in nothing", 0, wall::firstError);
            due("append to nothing", 1, () -> wall.append('d'));
            due("no error from before", 1, wall::firstError);
        }
    }

    /** Of the characters from 33 to 126 only these may come behind the text, which itself is right. */
    private static void next(String text, String right) {
        for (int code = 33; code <= 126; code++) {
            TheatreWall wall = typed(text);
            wall.append(code);
            int due = text.length() + (right.indexOf(code) >= 0 ? 1 : 0);
            due("first error of " + text + (char) code, due, wall::firstError);
        }
    }

    private static void partsOfText() {
        said("Tasks as a text are one or more parts with \";\" between them, each \"d\" and a length, 1 to 9, "
            + "then perhaps \"p\" and a person, 0 to 5, perhaps \"h\" and a hall, 0 to 3, and perhaps \"n\" and");
        for (String ahead : new String[] {"", "d1;", "d9p5h3nl;", "d1na;d2;"}) {
            next(ahead, "d");
            next(ahead + "d", "123456789");
            for (String length : new String[] {"d1", "d9"}) {
                next(ahead + length, "phn;");
                next(ahead + length + "p", "012345");
                next(ahead + length + "p0", "hn;");
                next(ahead + length + "p5", "hn;");
                next(ahead + length + "h", "0123");
                next(ahead + length + "h0", "n;");
                next(ahead + length + "h3", "n;");
                next(ahead + length + "p5h", "0123");
                next(ahead + length + "p0h3", "n;");
            }
        }
    }

    private static void needsOfText() {
        said("and perhaps \"n\" and one or more letters, \"a\" to \"l\", the tasks 0 to 11 that it needs, "
            + "in ascending order without repetition.");
        String letters = "abcdefghijkl";
        for (String ahead : new String[] {"d1", "d1p0", "d1h0", "d1p0h0", "d1;d1"}) {
            next(ahead + "n", letters);
            for (int last = 0; last < letters.length(); last++) {
                next(ahead + "n" + letters.charAt(last), letters.substring(last + 1) + ";");
                next(ahead + "n" + letters.substring(0, last + 1), letters.substring(last + 1) + ";");
            }
        }
        next("d1nl;d1n", letters);
        next("d1nl;d1na", letters.substring(1) + ";");
    }

    private static void anyLength() {
        said("a character is a syntax error if no tasks as a text, of any length, "
            + "begin with the characters before it and this character.");
        for (String last : new String[] {"d1;", "d1p", "d1h", "d1n"}) {
            due("they would go on behind 60 characters, " + last, 60, typed(times(19, "d1;") + last)::firstError);
        }
        due("more than 12 parts are no error", 60, typed(times(20, "d1;"))::firstError);
        due("the 60th is an error", 59, typed(times(19, "d1;") + "d1d")::firstError);
        due("the first of 60 is an error", 0, typed(times(60, ";"))::firstError);
        due("the second of 60 is an error", 1, typed(times(60, "d"))::firstError);
    }

    private static void noMatterOfSyntax() {
        said("(Whether the tasks are there is no matter of syntax.)");
        for (String text : new String[] {"d1na", "d1nl", "d1nabcdefghijkl", "d1nl;d1na", "d1;d1nb"}) {
            due("no error in " + text, text.length(), typed(text)::firstError);
            refused("but it is not added, " + text, STATE, () -> typed(text), TheatreWall::addAll);
        }
    }

    private static void firstError() {
        said("Returns the index of the first character that is a syntax error; "
            + "the length of the buffer if there is none.");
        due("nothing", 0, new TheatreWall()::firstError);
        String[] right = {"d", "d1", "d1;", "d1;d", "d9p5h3nabcdefghijkl;d1"};
        for (String text : right) {
            due("none in " + text, text.length(), typed(text)::firstError);
        }
        String[] wrong = {"x", "xd1", "xx", "d0", "d0;d0", "d1;;d1", "d1;x;x", "d1naa;", "d1nba;d0"};
        int[] due = {0, 0, 0, 1, 1, 3, 3, 4, 4};
        for (int i = 0; i < wrong.length; i++) {
            TheatreWall wall = typed(wrong[i]);
            due("the first in " + wrong[i], due[i], wall::firstError);
            due("and again", due[i], wall::firstError);
            due("nothing is changed", wrong[i].length(), wall::clearBuffer);
        }
    }

    private static void notComplete() {
        said("Throws `IllegalArgumentException` if the buffer is not complete tasks as a text");
        String[] texts = {"", "d", "d1p", "d1h", "d1p0h", "d1n", "d1p0n", "d1h0n", "d1p0h0n", "d1;", "d1na;", "d1;d",
            "d1;d1n", ";", "d1;;d1", "x", "d1x", "d0", "d1p6", "d1h4", "d1nm", "d1naa", "d1nba", "d1d1", "d1h0p0"};
        for (String text : texts) {
            refused("addAll of " + text, ARGUMENT, () -> typed(text), TheatreWall::addAll);
            refused("addAll of " + text + " to a full wall", ARGUMENT, () -> fullWith(text), TheatreWall::addAll);
        }
        said("If several exceptions apply, the one that is named first in the throws clause is thrown.");
        refused("a 13th part, and not complete", ARGUMENT, () -> typed(TWELVE + ";d1;"), TheatreWall::addAll);
        refused("a need of no task, and not complete", ARGUMENT, () -> typed("d1nl;"), TheatreWall::addAll);
        refused("a need of itself ahead of an error", ARGUMENT, () -> typed("d1na;d0"), TheatreWall::addAll);
    }

    private static TheatreWall fullWith(String text) {
        TheatreWall wall = wallOf(1, 1, 1, 1, 1, 1, 1, 1, 1, 1, 1, 1);
        type(wall, text);
        return wall;
    }

    private static void added() {
        said("Adds the tasks in the buffer, with the earliest day 0, one after the other, all or none, "
            + "and clears the buffer.");
        TheatreWall wall = queueOf(2, 2);
        wall.change(1, 3, 60);
        wall.need(1, 0, true);
        wall.remove(1);
        type(wall, "d1p0h0na;d9p5h3nab;d5");
        due("how many there are then", 4, wall::addAll);
        properties("lengths", wall, 0, 2, 1, 9, 5);
        properties("persons", wall, 1, 0, 0, 5, NONE);
        properties("halls", wall, 2, NONE, 0, 3, NONE);
        properties("earliest days", wall, 3, 0, 0, 0, 0);
        properties("needs", wall, 4, 0, 0b1, 0b11, 0);
        begins("laid", wall, 0, 2, 3, 0);
        due("nothing is left in the buffer", 0, wall::clearBuffer);
        refused("nothing more to add", ARGUMENT, () -> addedOnce("d1"), TheatreWall::addAll);
        TheatreWall one = typed("d1");
        due("the shortest text", 1, one::addAll);
    }

    private static TheatreWall addedOnce(String text) {
        TheatreWall wall = typed(text);
        wall.addAll();
        return wall;
    }

    private static void tooMany() {
        said("Throws `IllegalStateException` if there would be more than 12");
        due("twelve", 12, typed(TWELVE)::addAll);
        refused("thirteen", STATE, () -> typed(TWELVE + ";d1"), TheatreWall::addAll);
        refused("twenty", STATE, () -> typed(times(19, "d1;") + "d1"), TheatreWall::addAll);
        refused("one to a full wall", STATE, () -> fullWith("d1"), TheatreWall::addAll);
        TheatreWall eleven = fullWith("d1nk");
        eleven.remove(0);
        due("one to eleven", 12, eleven::addAll);
        due("that needs the eleventh", 1 << 10, () -> eleven.task(11, 4));
        refused("two to eleven", STATE, () -> elevenWith("d2;d2"), TheatreWall::addAll);
        due("none of the two is added", 11, () -> {
            TheatreWall wall = elevenWith("d2;d2");
            outcome(wall::addAll);
            return wall.count(4);
        });
    }

    private static TheatreWall elevenWith(String text) {
        TheatreWall wall = fullWith(text);
        wall.remove(11);
        return wall;
    }

    private static void notAhead() {
        said("or one needs a task that is not added ahead of it");
        refused("itself, the first", STATE, () -> typed("d1na"), TheatreWall::addAll);
        refused("itself, the second", STATE, () -> typed("d1;d1nb"), TheatreWall::addAll);
        refused("itself, the twelfth", STATE, () -> elevenWith("d1nl"), TheatreWall::addAll);
        refused("a later one", STATE, () -> typed("d1nb;d1"), TheatreWall::addAll);
        refused("one that is never there", STATE, () -> typed("d1;d1nl"), TheatreWall::addAll);
        refused("one of two", STATE, () -> typed("d1;d1nac"), TheatreWall::addAll);
        TheatreWall chain = typed("d1;d1na;d1nb");
        due("each the one ahead", 3, chain::addAll);
        properties("needs", chain, 4, 0, 0b1, 0b10);
        type(chain, "d1nc");
        due("one that was there before", 4, chain::addAll);
        due("its number", 0b100, () -> chain.task(3, 4));
        type(chain, "d1ne");
        fails("itself, behind others", STATE, chain, chain::addAll);
        due("the buffer stays", 4, chain::clearBuffer);
        due("the tasks stay", 4, () -> chain.count(0));
    }

    private static TheatreWall three() {
        TheatreWall wall = wallWith(1, 1, 3, 2, 1);
        wall.need(1, 0, true);
        wall.change(2, 3, 4);
        type(wall, "d4p2na");
        return wall;
    }

    private static void undoes(String what, CallOf call) {
        TheatreWall wall = three();
        TheatreWall twin = three();
        String answer = outcome(() -> call.answer(wall));
        same(what + " throws nothing", false, answer.startsWith("throws"));
        due(what + " saves one state", 6, () -> wall.count(8));
        due(what + " is undone", 5, wall::undo);
        alike(what + ", and all is as before", twin, wall);
    }

    private static void undoable() {
        said("Each method that is marked \"undoable\" and does not throw an exception saves the state from before it");
        undoes("add", w -> w.add(9, 5, 3));
        for (int task = 0; task < 3; task++) {
            int number = task;
            undoes("remove " + task, w -> w.remove(number));
        }
        undoes("need", w -> w.need(2, 1, true));
        undoes("need no more", w -> w.need(1, 0, false));
        undoes("change of a length", w -> w.change(0, 0, 9));
        undoes("change of a person", w -> w.change(0, 1, NONE));
        undoes("change of a hall", w -> w.change(0, 2, 3));
        undoes("change of an earliest day", w -> w.change(0, 3, 60));
        undoes("slip", w -> w.slip(0, 20));
        undoes("borrow", w -> w.borrow(1, 1, 98));
        undoes("rule", w -> w.rule(3));
        TheatreWall wall = three();
        due("addAll", 4, wall::addAll);
        due("addAll saves one state, as one call", 6, () -> wall.count(8));
        due("addAll is undone", 5, wall::undo);
        TheatreWall twin = three();
        twin.clearBuffer();
        alike("behind addAll", twin, wall);
    }

    private static void unchanged() {
        said("saves the state from before it (also if it changes nothing)");
        undoes("need that is so", w -> w.need(1, 0, true));
        undoes("need no more that is not so", w -> w.need(2, 0, false));
        undoes("the same length", w -> w.change(0, 0, 3));
        undoes("the same person", w -> w.change(0, 1, 1));
        undoes("the same hall", w -> w.change(0, 2, 1));
        undoes("the same earliest day", w -> w.change(2, 3, 4));
        undoes("the same days", w -> w.borrow(0, 0, 99));
        undoes("the same rule", w -> w.rule(0));
        TheatreWall wall = wallOf(1, 2);
        for (int turn = 0; turn < 6; turn++) {
            wall.rule(0);
        }
        due("they too push out the oldest", 5, wall::undo);
        for (int left = 4; left >= 0; left--) {
            due("undo", left, wall::undo);
        }
        due("the tasks stay", 2, () -> wall.count(0));
    }

    private static void notUndoable() {
        said("Each method that is marked \"undoable\"");
        CallOf[] others = {w -> w.append('d'), TheatreWall::clearBuffer, TheatreWall::firstError, w -> w.task(1, 7),
            w -> w.personOn(1, 0), w -> w.hallOn(1, 0), w -> w.hall(1, 2), w -> w.count(5), TheatreWall::setting,
            w -> w.ifRule(3, 2), TheatreWall::bestRule, w -> w.ifFreed(1), w -> w.worstSlip(1),
            w -> (long) w.busyness(), TheatreWall::digest};
        for (int i = 0; i < others.length; i++) {
            TheatreWall wall = three();
            TheatreWall twin = three();
            others[i].answer(wall);
            due("call " + i + " saves nothing", 5, () -> wall.count(8));
            wall.clearBuffer();
            twin.clearBuffer();
            alike("call " + i + " changes nothing but the buffer", twin, wall);
        }
    }

    private static void allButTheBuffer() {
        said("all, but the buffer and the saved states.");
        TheatreWall wall = typed("d1");
        wall.add(3, 0, 0);
        type(wall, ";d2");
        due("undo", 0, wall::undo);
        due("the buffer goes on", 5, wall::firstError);
        due("addAll", 2, wall::addAll);
        due("undo of addAll", 0, wall::undo);
        due("the buffer comes not back", 0, wall::clearBuffer);

        TheatreWall all = wallOf(1);
        all.borrow(3, 5, 6);
        all.rule(2);
        all.undo();
        due("the rule comes back", 0, all::setting);
        due("the hall's days stay", 5, () -> all.hall(3, 0));
        all.undo();
        due("the hall's first day comes back", 0, () -> all.hall(3, 0));
        due("the hall's last day comes back", 99, () -> all.hall(3, 1));
        due("saved states do not come back", 1, () -> all.count(8));
    }

    private static void sixSaved() {
        said("At most 6 states are saved; the oldest one is dropped first.");
        TheatreWall wall = new TheatreWall();
        for (int task = 0; task < 12; task++) {
            due("saved", Math.min(task, 6), () -> wall.count(8));
            wall.add(1, NONE, NONE);
        }
        for (int left = 5; left >= 0; left--) {
            int number = left;
            due("undo", left, wall::undo);
            due("the state of then", 6 + number, () -> wall.count(0));
        }
        refused("a seventh undo", STATE, TextEdgesTest::sixUndone, TheatreWall::undo);
        due("one more", 6, () -> wall.add(1, NONE, NONE));
        due("one is saved then", 1, () -> wall.count(8));
        // The turns 39, 37, 36, 34, 33, 31, 30 .. are not undone at once: their rules are 3, 1, 0, 2, 1, 3, 2 ..
        TheatreWall round = new TheatreWall();
        for (int turn = 0; turn < 40; turn++) {
            round.rule(turn % 4);
            if (turn % 3 == 2) {
                round.undo();
            }
        }
        int[] due = {1, 0, 2, 1, 3, 2};
        due("still six", 6, () -> round.count(8));
        for (int i = 0; i < due.length; i++) {
            round.undo();
            due("the rule " + (i + 1) + " undos ago", due[i], round::setting);
        }
    }

    /** A wall on which seven calls have been undone as far as they can be. */
    private static TheatreWall sixUndone() {
        TheatreWall wall = wallOf(1, 2, 3, 4, 5, 6, 7);
        for (int turn = 0; turn < 6; turn++) {
            wall.undo();
        }
        return wall;
    }

    private static void undone() {
        said("Restores the latest saved state, and drops it.");
        refused("nothing is saved", STATE, TheatreWall::new, TheatreWall::undo);
        refused("nothing is saved, though something is typed", STATE, () -> typed("d1"), TheatreWall::undo);
        TheatreWall wall = wallOf(1);
        due("one", 0, wall::undo);
        due("nothing is there", 0, () -> wall.count(0));
        fails("no second one", STATE, wall, wall::undo);
        due("an undo is not undone", 0, () -> wall.count(8));
        wall.add(7, NONE, NONE);
        wall.change(0, 0, 8);
        wall.undo();
        wall.change(0, 0, 9);
        due("what came behind an undo", 1, wall::undo);
        due("is undone to the state ahead of it", 7, () -> wall.task(0, 0));
    }
}
