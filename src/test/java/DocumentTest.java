/**
 * The document from its first line to its last, sentence by sentence: each is quoted where it stands, none is left
 * out, and what it says is asked of the class.
 */
public final class DocumentTest extends Checks {
    /** A call of the wall with one number. */
    interface CallWith {
        long answer(TheatreWall wall, int value);
    }

    private static final int CALLS = 512;

    private static int place = 0;
    private static String face = "";

    private DocumentTest() {
    }

    public static void main(String[] args) {
        whatItIs();
        publicFace();
        terms();
        plan();
        slack();
        settingsAndText();
        undoAndExceptions();
        constantsAndGroups();
        newObject();
        add();
        remove();
        need();
        change();
        slip();
        borrow();
        rule();
        append();
        clearBuffer();
        firstError();
        addAll();
        undo();
        task();
        personOn();
        hallOn();
        hall();
        count();
        setting();
        ifRule();
        bestRule();
        ifFreed();
        worstSlip();
        busyness();
        digest();
        notPromised();
        same("the document has no more", "", document().substring(place).strip());
        end("DocumentTest");
    }

    // ---- how the document is gone through

    /** The next sentence of the document, which the following answers are due by. */
    private static void next(String quote) {
        String rest = document().substring(place);
        int blank = rest.length() - rest.stripLeading().length();
        boolean isNext = rest.startsWith(quote, blank);
        said(quote);
        same("is the next one of the document", true, isNext);
        if (isNext) {
            place += blank + quote.length();
        }
    }

    /** The heading of a promise, and its signature, which is the one of the face. */
    private static void promise(int number, String name, String signature) {
        next("## Promise " + number + ": " + name);
        next("`" + signature + "`:");
        same("stands in the face", true, face.contains("public " + signature + ";"));
    }

    /** The ends of the range are taken, and what is outside is refused. */
    private static void range(String quote, int least, int most, String refusal, Maker maker, CallWith call) {
        next(quote);
        taken(least, most, maker, call);
        outsideFails(least, most, refusal, maker, call);
    }

    private static void taken(int least, int most, Maker maker, CallWith call) {
        for (int value : new int[] {least, most}) {
            String got = outcome(() -> call.answer(maker.make(), value));
            same("takes " + value + ", throws", false, got.startsWith("throws."));
        }
    }

    private static void outsideFails(int least, int most, String refusal, Maker maker, CallWith call) {
        for (int value : outside(least, most)) {
            refused("of " + value, refusal, maker, wall -> call.answer(wall, value));
        }
    }

    private static TheatreWall withText(TheatreWall wall, String text) {
        type(wall, text);
        return wall;
    }

    private static TheatreWall changed(TheatreWall wall, int task, int what, int value) {
        wall.change(task, what, value);
        return wall;
    }

    /**
     * The wall of the first sentence: 0 is 2 days of person 0 in hall 0, 1 is 3 days of person 1 there, and 2 is one
     * day, and needs both. By the rule 0 they begin on the days 0, 2 and 5.
     */
    private static TheatreWall story() {
        TheatreWall wall = withText(new TheatreWall(), "d2p0h0;d3p1h0;d1nab");
        wall.addAll();
        return wall;
    }

    // ---- ahead of the promises

    private static void whatItIs() {
        next("# TheatreWall");
        next("## What it is");
        next("A wall of a theatre with magnets for tasks, people and borrowed halls: tasks that wait for all that they "
            + "need, days on which a person or a hall is free, halls that are borrowed for some days, slips, rules by "
            + "which tasks are laid, critical tasks, slack, days that are lost by waiting, other rules, what would be, "
            + "tasks as texts with errors by place, and undo.");
        TheatreWall wall = story();
        begins("tasks wait for all that they need", wall, 0, 2, 5);
        due("person 1 is free on day 1", NONE, () -> wall.personOn(1, 1));
        due("the hall is not free on day 1", 0, () -> wall.hallOn(0, 1));
        properties("slack", wall, 7, 3, 0, 0);
        due("critical tasks", 2, () -> wall.count(5));
        due("days that are lost by waiting", 2, () -> wall.count(6));
        due("and by another rule", 3, () -> wall.ifRule(1, 2));
        due("the task whose slip hurts most", 1, () -> wall.worstSlip(3));
        due("a slip that costs nothing", 0, () -> wall.slip(0, 3));
        begins("behind the slip", wall, 3, 0, 5);
        due("undo", 1, wall::undo);
        due("a hall that is borrowed for four days", 1, () -> wall.borrow(0, 0, 3));
        due("a text with an error", 3, () -> withText(wall, "d1p6").firstError());

        next("An object is used for at most 512 calls after it has been made;");
        TheatreWall used = new TheatreWall();
        for (int call = 1; call < CALLS; call++) {
            int number = call;
            due("call " + call, (number - 1) % 4, () -> used.rule(number % 4));
        }
        due("call " + CALLS, 6, () -> used.count(8));
        next("what later calls answer is free.");
    }

    private static void publicFace() {
        next("## The public face");
        next("```java");
        int last = document().indexOf("```", place);
        same("the face has an end (FaceTest looks at the class)", true, last > place);
        face = document().substring(place, Math.max(place, last));
        place += face.length();
        next("```");
    }

    private static void terms() {
        next("## Terms");
        next("All numbers are integers, but for a share.");
        same("3 days of work in 2", 1.5, wallOf(1, 2).busyness());
        next("Tasks, people, halls");
        range("Days are numbered from 0 to 99.", 0, 99, INDEX, () -> queueOf(1), (wall, day) -> wall.personOn(0, day));

        next("There are at most 12 tasks, numbered from 0 (if one is removed, those behind it have numbers that are "
            + "less by 1).");
        TheatreWall full = wallOf(1, 2, 3, 4, 5, 6, 7, 8, 9, 1, 2, 3);
        fails("a 13th", STATE, full, () -> full.add(1, NONE, NONE));
        full.remove(4);
        properties("length", full, 0, 1, 2, 3, 4, 6, 7, 8, 9, 1, 2, 3);

        range("A task has a length, 1 to 9 days;", 1, 9, ARGUMENT, () -> wallOf(4), (wall, v) -> wall.change(0, 0, v));
        range("a person, 0 to 5, or none;", NONE, 5, ARGUMENT, () -> wallOf(4), (wall, v) -> wall.change(0, 1, v));
        range("a hall, 0 to 3, or none;", NONE, 3, ARGUMENT, () -> wallOf(4), (wall, v) -> wall.change(0, 2, v));
        range("an earliest day, 0 to 60;", 0, 60, ARGUMENT, () -> wallOf(4), (wall, v) -> wall.change(0, 3, v));
        next("and tasks that it needs, with lower numbers than its own.");
        TheatreWall wall = wallOf(1, 1, 1);
        due("needs a lower one", 0, () -> wall.need(2, 1, true));
        fails("needs itself", ARGUMENT, wall, () -> wall.need(1, 1, true));
        fails("needs a higher one", ARGUMENT, wall, () -> wall.need(0, 2, true));
        next("It follows those that it needs.");
        properties("followers", wall, 5, 0, 1, 0);

        next("Each hall is borrowed for a row of days, from a first to a last one, at first 0 to 99.");
        for (int hall = 0; hall < 4; hall++) {
            int number = hall;
            due("first day of hall " + hall, 0, () -> wall.hall(number, 0));
            due("last day of hall " + hall, 99, () -> wall.hall(number, 1));
        }
        wall.change(0, 2, 3);
        wall.borrow(3, 17, 17);
        begins("a row of one day", wall, 17, 0, 1);
    }

    private static void plan() {
        next("### The plan");
        next("The plan is laid by a rule, as long as there are tasks that are not laid, and need only tasks that are "
            + "laid: of these the first one by the rule is laid.");
        TheatreWall chain = queueOf(1, 9, 5, 9);
        chain.need(1, 0, true);
        chain.rule(1);
        begins("the longest of those that need only laid ones", chain, 14, 15, 9, 0);

        next("By the rule 0 this is the lowest one, by 1 the one with the greatest length, by 2 the one that most "
            + "tasks follow (directly), by 3 the one with the latest earliest day; of several always the lowest one.");
        TheatreWall wall = queueOf(2, 4, 1, 4);
        wall.add(1, NONE, NONE);
        wall.add(1, NONE, NONE);
        wall.need(4, 2, true);
        wall.need(5, 2, true);
        wall.need(5, 0, true);
        wall.change(2, 3, 1);
        wall.change(3, 3, 1);
        begins("rule 0", wall, 0, 2, 6, 7, 7, 7);
        wall.rule(1);
        begins("rule 1", wall, 8, 0, 10, 4, 11, 11);
        wall.rule(2);
        begins("rule 2", wall, 2, 4, 1, 8, 2, 4);
        wall.rule(3);
        begins("rule 3", wall, 6, 8, 1, 2, 2, 8);

        next("It begins on the first day that is not ahead of its earliest day, nor of the day behind the last day of "
            + "any task that it needs, so that on all its days no task that is laid has its person, none its hall, "
            + "the hall is borrowed, and the day is 99 at most.");
        TheatreWall three = new TheatreWall();
        three.add(2, 0, NONE);
        three.add(3, 1, 1);
        three.add(2, 0, 1);
        three.need(2, 0, true);
        three.change(2, 3, 1);
        three.borrow(1, 2, 20);
        begins("needs, person, hall, borrowed days", three, 0, 2, 5);
        due("the hall is given back on its second day", 2, () -> three.borrow(1, 2, 5));
        TheatreWall full = queueOf(9, 9, 9, 9, 9, 9, 9, 9, 9, 9, 9, 1);
        due("on day 99", 99, () -> full.task(11, 6));
        full.change(11, 0, 2);
        due("not beyond it", NONE, () -> full.task(11, 6));

        next("If there is no such day, it is stuck: it is not laid, and neither are those that follow it, or follow "
            + "these, and so on.");
        TheatreWall stuck = new TheatreWall();
        stuck.add(3, NONE, 0);
        stuck.add(1, NONE, NONE);
        stuck.add(1, NONE, NONE);
        stuck.add(1, NONE, NONE);
        stuck.need(1, 0, true);
        stuck.need(2, 1, true);
        due("one is left", 1, () -> stuck.borrow(0, 0, 1));
        begins("one is stuck, two follow", stuck, NONE, NONE, NONE, 0);

        next("The end of the plan is the last day of a task that is laid, and 1; 0 without such tasks.");
        due("the last day is 0", 1, () -> stuck.count(3));
        stuck.remove(3);
        due("none is laid", 0, () -> stuck.count(3));
        TheatreWall last = wallWith(NONE, 2, 1);
        last.borrow(2, 99, 99);
        due("the last day is 99", 100, () -> last.count(3));
    }

    private static void slack() {
        next("The slack of a task that is laid is the greatest number of days, up to 30, by which its earliest day "
            + "could be later than the day on which it begins now, so that at least as many tasks are laid as now "
            + "(the task itself need not be one of them), and the plan ends not later; 0 if there is no such number.");
        TheatreWall wall = queueOf(9, 9, 9);
        wall.add(1, NONE, NONE);
        properties("up to the end", wall, 7, 18, 9, 0, 26);
        wall.add(9, 0, NONE);
        due("up to 30", 30, () -> wall.task(3, 7));
        TheatreWall full = queueOf(9, 9, 9, 9, 9, 9, 9, 9, 9, 9, 9, 9);
        due("another one is laid in its place", 30, () -> full.task(10, 7));
        due("whole places of the others", 27, () -> full.task(0, 7));
        next("(The greatest such number, whether lesser ones do so or not; the earliest day can be above 60 for "
            + "that.)");
        due("not by 1, nor by 2, but by 3", 3, () -> story().task(0, 7));
        TheatreWall late = wallOf(1, 9);
        late.change(0, 3, 60);
        late.change(1, 3, 60);
        properties("above 60", late, 7, 8, 0);
        next("It is critical if its slack is 0.");
        due("one of two", 1, () -> late.count(5));
    }

    private static void settingsAndText() {
        next("### Settings");
        range("0: the rule, 0 to 3, at first 0.", 0, 3, ARGUMENT, TheatreWall::new, (wall, rule) -> wall.rule(rule));
        due("at first", 0, () -> new TheatreWall().setting());

        next("### Input text");
        next("The buffer has at most 60 characters.");
        TheatreWall full = withText(new TheatreWall(), ";".repeat(60));
        fails("a 61st", STATE, full, () -> full.append(';'));
        due("60", 60, full::clearBuffer);
        next("Tasks as a text are one or more parts with \";\" between them, each \"d\" and a length, 1 to 9, then "
            + "perhaps \"p\" and a person, 0 to 5, perhaps \"h\" and a hall, 0 to 3, and perhaps \"n\" and one or more "
            + "letters, \"a\" to \"l\", the tasks 0 to 11 that it needs, in ascending order without repetition.");
        for (String right : new String[] {"d1", "d9", "d1p0", "d1p5", "d1h0", "d1h3", "d1p5h3", "d1;d1", "d1;d1na",
            "d1;d1p2na", "d1;d1h2na", "d1;d1p2h2na", "d1;d1;d1nab"}) {
            due("no error in " + right, right.length(), () -> withText(new TheatreWall(), right).firstError());
            String got = outcome(() -> withText(new TheatreWall(), right).addAll());
            same("adds " + right + ", throws", false, got.startsWith("throws."));
        }
        for (String wrong : new String[] {";", "p", "1", "d0", "d:", "dd", "d11", "d1p6", "d1p/", "d1h4", "d1h/",
            "d1h1p", "d1p1p", "d1na1", "d1nm", "d1n`", "d1n;", "d1nap", "d1naa", "d1nba", "d1;;", "D"}) {
            int last = wrong.length() - 1;
            due("the last of " + wrong, last, () -> withText(new TheatreWall(), wrong).firstError());
        }
        next("The buffer is read from left to right; a character is a syntax error if no tasks as a text, of any "
            + "length, begin with the characters before it and this character.");
        due("the first of two", 1, () -> withText(new TheatreWall(), "dx;y").firstError());
        due("more than 12 tasks", 60, () -> withText(new TheatreWall(), "d1;".repeat(20)).firstError());
        next("(Whether the tasks are there is no matter of syntax.)");
        due("none is there", 15, () -> withText(new TheatreWall(), "d1nabcdefghijkl").firstError());
    }

    private static void undoAndExceptions() {
        next("### Undo");
        next("Each method that is marked \"undoable\" and does not throw an exception saves the state from before it "
            + "(also if it changes nothing): all, but the buffer and the saved states.");
        TheatreWall wall = story();
        long before = wall.digest();
        for (CallOf call : new CallOf[] {x -> x.add(1, 0, 0), x -> x.remove(1), x -> x.need(2, 0, true),
            x -> x.change(1, 0, 3), x -> x.slip(0, 1), x -> x.borrow(0, 0, 99), x -> x.rule(0)}) {
            call.answer(wall);
            due("it is saved", 2, () -> wall.count(8));
            due("and restored", 1, wall::undo);
            due("all of it", before, wall::digest);
        }
        type(wall, "d1");
        wall.addAll();
        type(wall, "d2");
        due("addAll is undone", 1, wall::undo);
        due("but not the buffer", 2, wall::clearBuffer);
        due("all but it", before, wall::digest);
        next("At most 6 states are saved; the oldest one is dropped first.");
        for (int length = 1; length <= 8; length++) {
            wall.change(0, 0, length);
        }
        for (int left = 5; left >= 0; left--) {
            due("undo", left, wall::undo);
            due("the state from before", left + 2, () -> wall.task(0, 0));
        }

        next("### Exceptions");
        next("A call that throws an exception changes nothing.");
        refused("slip", STATE, () -> changed(story(), 0, 3, 60), x -> x.slip(0, 1));
        refused("change", ARGUMENT, DocumentTest::story, x -> x.change(0, 0, 10));
        next("If several exceptions apply, the one that is named first in the throws clause is thrown.");
        refused("no such task, and no such days", INDEX, DocumentTest::story, x -> x.slip(3, 0));
        refused("a wrong length, and no room", ARGUMENT, () -> wallOf(1, 1, 1, 1, 1, 1, 1, 1, 1, 1, 1, 1),
            x -> x.add(0, 0, 0));
    }

    private static void constantsAndGroups() {
        next("The constants: `NONE = -1`: There is nothing to return.");
        same("NONE", -1, TheatreWall.NONE);
        next("Ahead of the calls `add`, `remove`, `need`, `change`, `slip`, `borrow`, `rule` the interface says: "
            + "---- tasks.");
        next("Ahead of the calls `append`, `clearBuffer`, `firstError`, `addAll`, `undo` the interface says: "
            + "---- texts.");
        next("Ahead of the calls `task`, `personOn`, `hallOn`, `hall`, `count`, `setting` the interface says: "
            + "---- looks; nothing is changed.");
        TheatreWall looked = withText(story(), "d1n");
        for (CallOf call : new CallOf[] {x -> x.task(0, 7), x -> x.personOn(0, 0), x -> x.hallOn(0, 0),
            x -> x.hall(0, 2), x -> x.count(5), TheatreWall::setting}) {
            call.answer(looked);
        }
        alike("looks", withText(story(), "d1n"), looked);
        next("Ahead of the calls `ifRule`, `bestRule`, `ifFreed`, `worstSlip`, `busyness`, `digest` the interface "
            + "says: ---- what would be; nothing is changed.");
        TheatreWall tried = withText(story(), "d1n");
        for (CallOf call : new CallOf[] {x -> x.ifRule(1, 2), TheatreWall::bestRule, x -> x.ifFreed(0),
            x -> x.worstSlip(20), x -> (long) x.busyness(), TheatreWall::digest}) {
            call.answer(tried);
        }
        alike("what would be", withText(story(), "d1n"), tried);
    }

    // ---- the promises

    private static void newObject() {
        promise(1, "A new object", "TheatreWall()");
        next("Creates an empty wall, with an empty buffer.");
        TheatreWall wall = new TheatreWall();
        due("tasks", 0, () -> wall.count(0));
        due("saved states", 0, () -> wall.count(8));
        due("the buffer", 0, wall::clearBuffer);
    }

    private static void add() {
        promise(2, "add", "int add(int length, int person, int hall) throws IllegalArgumentException, "
            + "IllegalStateException");
        next("Adds a task that needs none, with the earliest day 0.");
        TheatreWall wall = wallWith(4, 2, 7);
        int[] due = {7, 4, 2, 0, 0, 0, 0, 0, 0};
        for (int what = 0; what < due.length; what++) {
            int number = what;
            due("property " + what, due[what], () -> wall.task(0, number));
        }
        next("Undoable.");
        due("no task", 0, () -> wall.undo() + wall.count(0));
        range("- `length`: 1 to 9", 1, 9, ARGUMENT, TheatreWall::new, (x, value) -> x.add(value, 0, 0));
        range("- `person`: 0 to 5, or NONE", NONE, 5, ARGUMENT, TheatreWall::new, (x, value) -> x.add(1, value, 0));
        range("- `hall`: 0 to 3, or NONE", NONE, 3, ARGUMENT, TheatreWall::new, (x, value) -> x.add(1, 0, value));
        next("Returns its number.");
        due("the third", 2, () -> wallOf(1, 1).add(1, NONE, NONE));
        next("Throws `IllegalArgumentException` if an argument is out of range");
        refused("all of them", ARGUMENT, TheatreWall::new, x -> x.add(10, 6, 4));
        next("Throws `IllegalStateException` if there are 12 tasks");
        refused("a 13th", STATE, () -> wallOf(1, 1, 1, 1, 1, 1, 1, 1, 1, 1, 1, 1), x -> x.add(1, 0, 0));
    }

    private static void remove() {
        promise(3, "remove", "int remove(int task) throws IndexOutOfBoundsException");
        next("Removes a task; no task needs it any more.");
        TheatreWall wall = story();
        wall.remove(0);
        properties("length", wall, 0, 3, 1);
        properties("needs", wall, 4, 0, 1);
        begins("laid anew", wall, 0, 3);
        next("Undoable.");
        due("saved states that are left", 1, wall::undo);
        properties("needs", wall, 4, 0, 0, 3);
        range("- `task`: its number", 0, 2, INDEX, DocumentTest::story, TheatreWall::remove);
        next("Returns how many tasks needed it.");
        due("one did", 1, () -> story().remove(1));
        due("none did", 0, () -> story().remove(2));
        next("Throws `IndexOutOfBoundsException` if there is no such task");
        refused("of an empty wall", INDEX, TheatreWall::new, x -> x.remove(0));
    }

    private static void need() {
        promise(4, "need", "int need(int task, int other, boolean isSo) throws IndexOutOfBoundsException, "
            + "IllegalArgumentException");
        next("Changes whether a task needs another one.");
        TheatreWall wall = story();
        wall.need(2, 1, false);
        begins("1 is not waited for", wall, 0, 2, 2);
        next("Undoable.");
        due("saved states that are left", 1, wall::undo);
        begins("1 is waited for", wall, 0, 2, 5);
        next("- `task`: its number");
        taken(1, 2, DocumentTest::story, (x, task) -> x.need(task, 0, true));
        outsideFails(0, 2, INDEX, DocumentTest::story, (x, task) -> x.need(task, 0, true));
        next("- `other`: the number of the other one");
        taken(0, 1, DocumentTest::story, (x, other) -> x.need(2, other, true));
        outsideFails(0, 2, INDEX, DocumentTest::story, (x, other) -> x.need(2, other, true));
        next("- `isSo`: whether it needs it from now on");
        wall.need(1, 0, true);
        properties("needs", wall, 4, 0, 1, 3);
        wall.need(1, 0, false);
        properties("needs", wall, 4, 0, 0, 3);
        next("Returns 1 if it needed it, otherwise 0.");
        due("it needed it", 1, () -> story().need(2, 0, false));
        due("it did not", 0, () -> story().need(1, 0, false));
        next("Throws `IndexOutOfBoundsException` if there is no such task");
        refused("no task 3", INDEX, DocumentTest::story, x -> x.need(3, 0, true));
        refused("no task -1", INDEX, DocumentTest::story, x -> x.need(2, -1, true));
        next("Throws `IllegalArgumentException` if other is not less than task");
        refused("itself", ARGUMENT, DocumentTest::story, x -> x.need(0, 0, true));
        refused("a higher one", ARGUMENT, DocumentTest::story, x -> x.need(1, 2, false));
    }

    private static void change() {
        promise(5, "change", "int change(int task, int what, int value) throws IndexOutOfBoundsException, "
            + "IllegalArgumentException");
        next("Changes a property of a task.");
        TheatreWall wall = changed(changed(changed(changed(story(), 1, 0, 4), 1, 1, 0), 1, 2, NONE), 1, 3, 9);
        properties("length", wall, 0, 2, 4, 1);
        properties("person", wall, 1, 0, 0, NONE);
        properties("hall", wall, 2, 0, NONE, NONE);
        properties("earliest day", wall, 3, 0, 9, 0);
        begins("laid anew", wall, 0, 9, 13);
        next("Undoable.");
        due("saved states that are left", 4, wall::undo);
        begins("the earliest day is undone", wall, 0, 2, 6);
        range("- `task`: its number", 0, 2, INDEX, DocumentTest::story, (x, task) -> x.change(task, 0, 1));
        next("- `what`: 0: its length; 1: its person; 2: its hall; 3: its earliest day");
        taken(0, 3, DocumentTest::story, (x, what) -> x.change(0, what, 1));
        outsideFails(0, 3, ARGUMENT, DocumentTest::story, (x, what) -> x.change(0, what, 1));
        next("- `value`: the new value, in its range");
        int[][] ranges = {{1, 9}, {NONE, 5}, {NONE, 3}, {0, 60}};
        for (int what = 0; what < ranges.length; what++) {
            int number = what;
            taken(ranges[what][0], ranges[what][1], DocumentTest::story, (x, value) -> x.change(0, number, value));
        }
        next("Returns the previous value.");
        due("the length", 3, () -> story().change(1, 0, 9));
        due("nobody", NONE, () -> story().change(2, 1, 0));
        due("no hall", NONE, () -> story().change(2, 2, 0));
        due("the earliest day", 7, () -> changed(story(), 0, 3, 7).change(0, 3, 8));
        next("Throws `IndexOutOfBoundsException` if there is no such task");
        refused("and a wrong what", INDEX, DocumentTest::story, x -> x.change(3, 4, 0));
        next("Throws `IllegalArgumentException` if what or value is out of range");
        for (int what = 0; what < ranges.length; what++) {
            int number = what;
            outsideFails(ranges[what][0], ranges[what][1], ARGUMENT, DocumentTest::story,
                (x, value) -> x.change(0, number, value));
        }
    }

    private static void slip() {
        promise(6, "slip", "int slip(int task, int days) throws IndexOutOfBoundsException, IllegalArgumentException, "
            + "IllegalStateException");
        next("A task slips: its earliest day becomes the day on which it begins now, and some days more.");
        TheatreWall wall = story();
        wall.slip(1, 2);
        due("the day 2, and 2 more", 4, () -> wall.task(1, 3));
        begins("laid anew", wall, 0, 4, 7);
        next("Undoable.");
        due("saved states that are left", 1, wall::undo);
        properties("earliest day", wall, 3, 0, 0, 0);
        range("- `task`: its number", 0, 2, INDEX, DocumentTest::story, (x, task) -> x.slip(task, 1));
        range("- `days`: 1 to 20", 1, 20, ARGUMENT, DocumentTest::story, (x, days) -> x.slip(0, days));
        next("Returns by how many days the end of the plan becomes later (below 0 if it becomes earlier).");
        due("later", 2, () -> story().slip(1, 2));
        due("neither", 0, () -> story().slip(0, 3));
        TheatreWall short6 = story();
        short6.borrow(0, 0, 4);
        due("earlier, as two are not laid any more", -4, () -> short6.slip(1, 1));
        next("Throws `IndexOutOfBoundsException` if there is no such task");
        refused("no task 3", INDEX, DocumentTest::story, x -> x.slip(3, 1));
        next("Throws `IllegalArgumentException` if days is out of range");
        refused("no days, of a task that is at 60", ARGUMENT, () -> changed(story(), 0, 3, 60), x -> x.slip(0, 0));
        next("Throws `IllegalStateException` if the task is not laid, or its earliest day would be above 60");
        due("to the day 60", 20, () -> changed(wallOf(1), 0, 3, 40).slip(0, 20));
        refused("to the day 61", STATE, () -> changed(wallOf(1), 0, 3, 41), x -> x.slip(0, 20));
        Maker stuck = () -> {
            TheatreWall made = story();
            made.borrow(0, 0, 3);
            return made;
        };
        refused("a stuck one", STATE, stuck, x -> x.slip(1, 1));
        refused("one that follows it", STATE, stuck, x -> x.slip(2, 1));
    }

    private static void borrow() {
        promise(7, "borrow", "int borrow(int hall, int first, int last) throws IndexOutOfBoundsException, "
            + "IllegalArgumentException");
        next("Borrows a hall for other days.");
        TheatreWall wall = story();
        wall.borrow(0, 10, 14);
        due("first", 10, () -> wall.hall(0, 0));
        due("last", 14, () -> wall.hall(0, 1));
        due("of this hall alone", 99, () -> wall.hall(1, 1));
        begins("laid anew", wall, 10, 12, 15);
        next("Undoable.");
        due("saved states that are left", 1, wall::undo);
        begins("and again", wall, 0, 2, 5);
        range("- `hall`: 0 to 3", 0, 3, INDEX, DocumentTest::story, (x, hall) -> x.borrow(hall, 0, 99));
        range("- `first`: 0 to 99", 0, 99, ARGUMENT, DocumentTest::story, (x, first) -> x.borrow(0, first, 99));
        range("- `last`: first to 99", 7, 99, ARGUMENT, DocumentTest::story, (x, last) -> x.borrow(0, 7, last));
        next("Returns how many tasks are laid then.");
        due("all", 3, () -> story().borrow(0, 0, 4));
        due("the first", 1, () -> story().borrow(0, 0, 3));
        due("none", 0, () -> story().borrow(0, 99, 99));
        next("Throws `IndexOutOfBoundsException` if there is no such hall");
        refused("and no such days", INDEX, DocumentTest::story, x -> x.borrow(4, 100, 0));
        next("Throws `IllegalArgumentException` if a day is out of range");
        refused("first", ARGUMENT, DocumentTest::story, x -> x.borrow(0, -1, 5));
        refused("last", ARGUMENT, DocumentTest::story, x -> x.borrow(0, 5, 100));
        refused("last ahead of first", ARGUMENT, DocumentTest::story, x -> x.borrow(0, 5, 4));
    }

    private static void rule() {
        promise(8, "rule", "int rule(int rule) throws IllegalArgumentException");
        next("Changes the rule.");
        TheatreWall wall = story();
        wall.rule(1);
        due("the rule", 1, wall::setting);
        begins("the longest first", wall, 3, 0, 5);
        next("Undoable.");
        due("saved states that are left", 1, wall::undo);
        begins("the lowest first", wall, 0, 2, 5);
        range("- `rule`: 0 to 3", 0, 3, ARGUMENT, DocumentTest::story, TheatreWall::rule);
        next("Returns the previous one.");
        due("at first", 0, () -> wall.rule(2));
        due("then", 2, () -> wall.rule(3));
        next("Throws `IllegalArgumentException` if rule is out of range");
        refused("rule 4", ARGUMENT, DocumentTest::story, x -> x.rule(4));
    }

    private static void append() {
        promise(9, "append", "int append(int code) throws IllegalArgumentException, IllegalStateException");
        next("Appends a character to the buffer.");
        TheatreWall wall = withText(story(), "d4");
        wall.append(';');
        wall.append('d');
        wall.append('5');
        wall.addAll();
        properties("length", wall, 0, 2, 3, 1, 4, 5);
        range("- `code`: the character code, 33 to 126", 33, 126, ARGUMENT, TheatreWall::new, TheatreWall::append);
        next("Returns the new length of the buffer.");
        due("the first", 1, () -> new TheatreWall().append('!'));
        due("the third", 3, () -> withText(new TheatreWall(), "d~").append('~'));
        next("Throws `IllegalArgumentException` if code is not 33 to 126");
        refused("and no room", ARGUMENT, () -> withText(new TheatreWall(), "x".repeat(60)), x -> x.append(127));
        next("Throws `IllegalStateException` if the buffer has 60 characters");
        due("the 60th", 60, () -> withText(new TheatreWall(), "x".repeat(59)).append('x'));
        refused("a 61st", STATE, () -> withText(new TheatreWall(), "x".repeat(60)), x -> x.append('x'));
    }

    private static void clearBuffer() {
        promise(10, "clearBuffer", "int clearBuffer()");
        next("Clears the buffer.");
        TheatreWall wall = withText(story(), "d1;d2");
        wall.clearBuffer();
        alike("it is as if it had not been typed", story(), wall);
        next("Returns the length that it had.");
        due("five", 5, () -> withText(new TheatreWall(), "d1;d2").clearBuffer());
        due("none", 0, () -> new TheatreWall().clearBuffer());
    }

    private static void firstError() {
        promise(11, "firstError", "int firstError()");
        next("Finds the first syntax error of the buffer.");
        TheatreWall wall = withText(story(), "d1;p1");
        due("found", 3, wall::firstError);
        due("and still there", 3, wall::firstError);
        next("Returns the index of the first character that is a syntax error; the length of the buffer if there is "
            + "none.");
        due("the first one", 0, () -> withText(new TheatreWall(), "x").firstError());
        due("the last one", 2, () -> withText(new TheatreWall(), "d1x").firstError());
        due("not complete, but no error", 3, () -> withText(new TheatreWall(), "d1;").firstError());
        due("empty", 0, () -> new TheatreWall().firstError());
    }

    private static void addAll() {
        promise(12, "addAll", "int addAll() throws IllegalArgumentException, IllegalStateException");
        next("Adds the tasks in the buffer, with the earliest day 0, one after the other, all or none, and clears the "
            + "buffer.");
        TheatreWall wall = withText(story(), "d4p5h3na;d6nbcd");
        wall.addAll();
        properties("length", wall, 0, 2, 3, 1, 4, 6);
        properties("person", wall, 1, 0, 1, NONE, 5, NONE);
        properties("hall", wall, 2, 0, 0, NONE, 3, NONE);
        properties("earliest day", wall, 3, 0, 0, 0, 0, 0);
        properties("needs", wall, 4, 0, 0, 3, 1, 14);
        begins("laid", wall, 0, 2, 5, 2, 6);
        due("the buffer", 0, wall::clearBuffer);
        next("Undoable, as one call.");
        due("saved states that are left", 1, wall::undo);
        due("both are gone", 3, () -> wall.count(0));
        next("Returns how many tasks there are then.");
        due("five", 5, () -> withText(story(), "d1;d1").addAll());
        due("twelve", 12, () -> withText(story(), "d1;d1;d1;d1;d1;d1;d1;d1;d1").addAll());
        next("Throws `IllegalArgumentException` if the buffer is not complete tasks as a text");
        for (String text : new String[] {"", "d", "d1;", "d1p", "d1h", "d1n", "x", "d1x",
            "d1;d1;d1;d1;d1;d1;d1;d1;d1;d"}) {
            refused("of " + text, ARGUMENT, () -> withText(story(), text), TheatreWall::addAll);
        }
        next("Throws `IllegalStateException` if there would be more than 12, or one needs a task that is not added "
            + "ahead of it");
        for (String text : new String[] {"d1;d1;d1;d1;d1;d1;d1;d1;d1;d1", "d1nd", "d1;d1;d1nf", "d1ne;d1"}) {
            refused("of " + text, STATE, () -> withText(story(), text), TheatreWall::addAll);
        }
    }

    private static void undo() {
        promise(13, "undo", "int undo() throws IllegalStateException");
        next("Restores the latest saved state, and drops it.");
        TheatreWall wall = story();
        wall.borrow(1, 4, 5);
        wall.rule(3);
        wall.undo();
        due("the rule", 0, wall::setting);
        due("not yet the hall", 4, () -> wall.hall(1, 0));
        wall.undo();
        due("the hall", 0, () -> wall.hall(1, 0));
        next("Returns how many saved states are left.");
        due("none", 0, wall::undo);
        due("the wall is empty", 0, () -> wall.count(0));
        next("Throws `IllegalStateException` if there is none");
        refused("of a new one", STATE, TheatreWall::new, TheatreWall::undo);
    }

    private static void task() {
        promise(14, "task", "int task(int task, int what) throws IndexOutOfBoundsException, "
            + "IllegalArgumentException");
        next("Returns a property of a task.");
        range("- `task`: its number", 0, 2, INDEX, DocumentTest::story, (x, task) -> x.task(task, 0));
        next("- `what`: 0: its length; 1: its person, NONE without one; 2: its hall, NONE without one; 3: its earliest "
            + "day; 4: the tasks that it needs, as a mask; 5: how many tasks follow it (directly); 6: the day on which "
            + "it begins, NONE if it is not laid; 7: its slack, NONE if it is not laid; 8: the days for which it "
            + "waits: the day on which it begins less the greatest of its earliest day and the days behind the last "
            + "days of those that it needs; 0 if it is not laid");
        TheatreWall wall = changed(story(), 1, 3, 1);
        int[][] due = {{2, 3, 1}, {0, 1, NONE}, {0, 0, NONE}, {0, 1, 0}, {0, 0, 3}, {1, 1, 0}, {0, 2, 5}, {0, 0, 0},
            {0, 1, 0}};
        for (int what = 0; what < due.length; what++) {
            properties("property " + what, wall, what, due[what]);
        }
        wall.borrow(0, 0, 3);
        properties("begin", wall, 6, 0, NONE, NONE);
        properties("slack", wall, 7, 0, NONE, NONE);
        properties("days it waits", wall, 8, 0, 0, 0);
        next("Returns the property.");
        due("as it is then", 9, () -> changed(wall, 2, 0, 9).task(2, 0));
        next("Throws `IndexOutOfBoundsException` if there is no such task");
        refused("and a wrong what", INDEX, DocumentTest::story, x -> x.task(3, 9));
        next("Throws `IllegalArgumentException` if what is not 0 to 8");
        outsideFails(0, 8, ARGUMENT, DocumentTest::story, (x, what) -> x.task(0, what));
    }

    private static void personOn() {
        promise(15, "personOn", "int personOn(int person, int day) throws IndexOutOfBoundsException");
        next("Returns the task of a person on a day.");
        int[] due = {NONE, NONE, 1, 1, 1, NONE, NONE};
        for (int day = 0; day < due.length; day++) {
            int number = day;
            due("person 1 on day " + day, due[day], () -> story().personOn(1, number));
        }
        range("- `person`: 0 to 5", 0, 5, INDEX, DocumentTest::story, (x, person) -> x.personOn(person, 0));
        range("- `day`: 0 to 99", 0, 99, INDEX, DocumentTest::story, (x, day) -> x.personOn(0, day));
        next("Returns the task of the plan, NONE if there is none.");
        TheatreWall wall = story();
        wall.borrow(0, 0, 3);
        due("its task is not laid", NONE, () -> wall.personOn(1, 2));
        due("2 has no person", NONE, () -> story().personOn(0, 5));
        next("Throws `IndexOutOfBoundsException` if there is no such person or day");
        refused("neither", INDEX, DocumentTest::story, x -> x.personOn(6, 100));
    }

    private static void hallOn() {
        promise(16, "hallOn", "int hallOn(int hall, int day) throws IndexOutOfBoundsException");
        next("Returns the task in a hall on a day.");
        int[] due = {0, 0, 1, 1, 1, NONE, NONE};
        for (int day = 0; day < due.length; day++) {
            int number = day;
            due("hall 0 on day " + day, due[day], () -> story().hallOn(0, number));
        }
        range("- `hall`: 0 to 3", 0, 3, INDEX, DocumentTest::story, (x, hall) -> x.hallOn(hall, 0));
        range("- `day`: 0 to 99", 0, 99, INDEX, DocumentTest::story, (x, day) -> x.hallOn(0, day));
        next("Returns the task of the plan, NONE if there is none.");
        TheatreWall wall = story();
        wall.borrow(0, 0, 3);
        due("its task is not laid", NONE, () -> wall.hallOn(0, 2));
        due("another hall", NONE, () -> story().hallOn(1, 0));
        next("Throws `IndexOutOfBoundsException` if there is no such hall or day");
        refused("neither", INDEX, DocumentTest::story, x -> x.hallOn(4, 100));
    }

    private static void hall() {
        promise(17, "hall", "int hall(int hall, int what) throws IndexOutOfBoundsException, "
            + "IllegalArgumentException");
        next("Returns a property of a hall.");
        range("- `hall`: 0 to 3", 0, 3, INDEX, DocumentTest::story, (x, hall) -> x.hall(hall, 0));
        next("- `what`: 0: the first day for which it is borrowed; 1: the last one; 2: days on which a task of the "
            + "plan is there; 3: tasks of the plan that are there");
        next("Returns the property.");
        TheatreWall wall = story();
        int[] due = {0, 99, 5, 2};
        for (int what = 0; what < due.length; what++) {
            int number = what;
            due("property " + what, due[what], () -> wall.hall(0, number));
        }
        wall.borrow(0, 2, 5);
        int[] then = {2, 5, 2, 1};
        for (int what = 0; what < then.length; what++) {
            int number = what;
            due("property " + what + " then", then[what], () -> wall.hall(0, number));
        }
        next("Throws `IndexOutOfBoundsException` if there is no such hall");
        refused("and a wrong what", INDEX, DocumentTest::story, x -> x.hall(4, 4));
        next("Throws `IllegalArgumentException` if what is not 0 to 3");
        outsideFails(0, 3, ARGUMENT, DocumentTest::story, (x, what) -> x.hall(0, what));
    }

    private static void counts(TheatreWall wall, int... due) {
        for (int what = 0; what < due.length; what++) {
            int number = what;
            due("count " + what, due[what], () -> wall.count(number));
        }
    }

    private static void count() {
        promise(18, "count", "int count(int what) throws IllegalArgumentException");
        next("Returns a number.");
        next("- `what`: 0: tasks; 1: those that are laid; 2: those that are stuck or follow such ones; 3: the end of "
            + "the plan; 4: the sum of the lengths of all tasks; 5: critical tasks; 6: the sum of the days for which "
            + "tasks wait; 7: the greatest sum of lengths of a row of tasks each of which needs the one ahead of it; "
            + "0 without tasks; 8: saved states");
        next("Returns the number.");
        counts(new TheatreWall(), 0, 0, 0, 0, 0, 0, 0, 0, 0);
        counts(story(), 3, 3, 0, 6, 6, 2, 2, 4, 1);
        TheatreWall wall = story();
        wall.borrow(0, 0, 3);
        counts(wall, 3, 1, 2, 2, 6, 1, 0, 4, 2);
        next("Throws `IllegalArgumentException` if what is not 0 to 8");
        outsideFails(0, 8, ARGUMENT, DocumentTest::story, TheatreWall::count);
    }

    private static void setting() {
        promise(19, "setting", "int setting()");
        next("Returns the rule.");
        next("Returns setting 0.");
        TheatreWall wall = story();
        for (int rule = 3; rule >= 0; rule--) {
            wall.rule(rule);
            due("rule " + rule, rule, wall::setting);
        }
    }

    private static void ifRule() {
        promise(20, "ifRule", "int ifRule(int rule, int what) throws IllegalArgumentException");
        next("Tells what another rule would bring.");
        range("- `rule`: 0 to 3", 0, 3, ARGUMENT, DocumentTest::story, (x, rule) -> x.ifRule(rule, 0));
        next("- `what`: 0: the end of the plan; 1: tasks that are laid; 2: the sum of the days for which tasks wait");
        next("Returns the number.");
        TheatreWall wall = changed(story(), 1, 0, 4);
        int[][] due = {{7, 3, 2}, {7, 3, 4}, {7, 3, 2}, {7, 3, 2}};
        for (int rule = 0; rule < due.length; rule++) {
            for (int what = 0; what < due[rule].length; what++) {
                int asked = rule;
                int number = what;
                due("rule " + rule + ", " + what, due[rule][what], () -> wall.ifRule(asked, number));
            }
        }
        next("Throws `IllegalArgumentException` if rule or what is out of range");
        outsideFails(0, 2, ARGUMENT, DocumentTest::story, (x, what) -> x.ifRule(0, what));
    }

    private static void bestRule() {
        promise(21, "bestRule", "int bestRule()");
        next("Finds the best rule.");
        next("Returns the rule by which most tasks are laid, of several the one with the earliest end, of these the "
            + "lowest one.");
        TheatreWall wall = story();
        due("all the same", 0, wall::bestRule);
        wall.add(9, 1, NONE);
        due("the end by rule 0", 14, () -> wall.ifRule(0, 0));
        due("the end by rule 1", 13, () -> wall.ifRule(1, 0));
        due("the earliest end", 1, wall::bestRule);
        TheatreWall narrow = hallOf(5, 2, 2);
        narrow.change(1, 3, 2);
        narrow.borrow(0, 0, 5);
        due("two are laid by rule 3, one by the others", 3, narrow::bestRule);
    }

    private static void ifFreed() {
        promise(22, "ifFreed", "int ifFreed(int person) throws IndexOutOfBoundsException");
        next("Tells how the plan would end without a person's tasks having this person.");
        TheatreWall wall = queueOf(4, 3, 2);
        wall.add(8, 1, NONE);
        range("- `person`: 0 to 5", 0, 5, INDEX, DocumentTest::story, TheatreWall::ifFreed);
        next("Returns the end of the plan, if no task had this person any more.");
        due("as it is", 9, () -> wall.count(3));
        due("person 0", 8, () -> wall.ifFreed(0));
        due("person 1", 9, () -> wall.ifFreed(1));
        due("a person without tasks", 9, () -> wall.ifFreed(5));
        due("an empty wall", 0, () -> new TheatreWall().ifFreed(0));
        next("Throws `IndexOutOfBoundsException` if there is no such person");
        refused("nobody", INDEX, DocumentTest::story, x -> x.ifFreed(NONE));
    }

    private static void worstSlip() {
        promise(23, "worstSlip", "int worstSlip(int days) throws IllegalArgumentException");
        next("Finds the task whose slips hurt most.");
        due("1 and 2 alike", 1, () -> story().worstSlip(3));
        range("- `days`: 1 to 20", 1, 20, ARGUMENT, DocumentTest::story, TheatreWall::worstSlip);
        next("Returns of the tasks that could slip by so many days the one by which the end of the plan would become "
            + "latest, of several the lowest; NONE if none could.");
        TheatreWall late = changed(wallOf(1, 9), 1, 3, 41);
        due("to the day 60", 1, () -> late.worstSlip(19));
        due("not to 61", 0, () -> late.worstSlip(20));
        due("none", NONE, () -> changed(wallOf(1), 0, 3, 60).worstSlip(1));
        due("none is there", NONE, () -> new TheatreWall().worstSlip(1));
        next("Throws `IllegalArgumentException` if days is out of range");
        refused("also of an empty wall", ARGUMENT, TheatreWall::new, x -> x.worstSlip(0));
    }

    private static void busyness() {
        promise(24, "busyness", "double busyness()");
        next("Returns how busy the days are.");
        next("Returns the sum of the lengths of the tasks that are laid, as a double, divided by the end of the plan; "
            + "0.0 if that is 0.");
        same("story", 1.0, story().busyness());
        same("days without work", 1.0 / 61.0, changed(wallOf(1), 0, 3, 60).busyness());
        same("three at once", 19.0 / 9.0, wallOf(9, 9, 1).busyness());
        TheatreWall wall = story();
        wall.borrow(0, 0, 3);
        same("only those that are laid", 1.0, wall.busyness());
        wall.borrow(0, 99, 99);
        same("none is laid", 0.0, wall.busyness());
        same("none is there", 0.0, new TheatreWall().busyness());
    }

    private static void digest() {
        promise(25, "digest", "long digest()");
        next("Computes a hash of the whole state.");
        next("The hash starts at 2791.");
        next("For each value v of the following list, in order, the hash becomes 31 * hash + v, in long arithmetic "
            + "with overflow.");
        next("The values are: count(0) to count(8); setting; for each task its properties 0 to 8; for each hall its "
            + "properties 0 to 3; for each person the tasks on the days 0 to 9, and ifFreed; for each rule ifRule with "
            + "0 to 2; bestRule; worstSlip of 3; the bits of busyness (as Double.doubleToLongBits); the length of the "
            + "buffer and each of its character codes.");
        next("Returns the hash.");
        due("an empty wall", hash(new TheatreWall(), ""), () -> new TheatreWall().digest());
        due("a story", hash(story(), ""), () -> story().digest());
        TheatreWall wall = withText(changed(story(), 0, 3, 1), "d1x~!");
        wall.rule(3);
        wall.borrow(2, 3, 4);
        due("a story with a text", hash(wall, "d1x~!"), wall::digest);
    }

    private static long hash(TheatreWall wall, String text) {
        long hash = 2791;
        for (int what = 0; what <= 8; what++) {
            hash = 31 * hash + wall.count(what);
        }
        hash = 31 * hash + wall.setting();
        for (int task = 0; task < wall.count(0); task++) {
            for (int what = 0; what <= 8; what++) {
                hash = 31 * hash + wall.task(task, what);
            }
        }
        for (int hall = 0; hall <= 3; hall++) {
            for (int what = 0; what <= 3; what++) {
                hash = 31 * hash + wall.hall(hall, what);
            }
        }
        for (int person = 0; person <= 5; person++) {
            for (int day = 0; day <= 9; day++) {
                hash = 31 * hash + wall.personOn(person, day);
            }
            hash = 31 * hash + wall.ifFreed(person);
        }
        for (int rule = 0; rule <= 3; rule++) {
            for (int what = 0; what <= 2; what++) {
                hash = 31 * hash + wall.ifRule(rule, what);
            }
        }
        hash = 31 * hash + wall.bestRule();
        hash = 31 * hash + wall.worstSlip(3);
        hash = 31 * hash + Double.doubleToLongBits(wall.busyness());
        hash = 31 * hash + text.length();
        for (char code : text.toCharArray()) {
            hash = 31 * hash + code;
        }
        return hash;
    }

    private static void notPromised() {
        next("## Not promised");
        next("How the state is held inside the object is free, as are the speed of each call, the text of toString and "
            + "the behaviour of equals and hashCode.");
        next("Use of one object from several threads at once is not promised to be safe.");
        next("Nothing is promised beyond the answers and state changes described above, and nothing about an object "
            + "after its 512th call.");
    }
}
