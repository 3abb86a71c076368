/** For each promise of the document its ordinary inputs, its edges, and wrong inputs. */
public final class PromisesTest extends Checks {
    private PromisesTest() {
    }

    public static void main(String[] args) {
        promise01();
        promise02();
        promise03();
        promise04();
        promise05();
        promise06();
        promise07();
        promise08();
        promise09();
        promise10();
        promise11();
        promise12();
        promise13();
        savedStatesOfEachUndoable();
        promise14();
        slackOfSeveralKinds();
        promise15();
        promise16();
        promise17();
        promise18();
        promise19();
        promise20();
        promise21();
        promise22();
        promise23();
        promise24();
        promise25();
        end("PromisesTest");
    }

    private static void promise01() {
        same("NONE", -1, TheatreWall.NONE);
        TheatreWall wall = new TheatreWall();
        for (int what = 0; what <= 8; what++) {
            int number = what;
            due("new count " + what, 0, () -> wall.count(number));
        }
        due("new rule", 0, wall::setting);
        for (int hall = 0; hall < 4; hall++) {
            int number = hall;
            due("new hall from", 0, () -> wall.hall(number, 0));
            due("new hall to", 99, () -> wall.hall(number, 1));
            due("new hall's days", 0, () -> wall.hall(number, 2));
            due("new hall's tasks", 0, () -> wall.hall(number, 3));
        }
        due("new first error", 0, wall::firstError);
        due("new buffer", 0, wall::clearBuffer);
        fails("new undo", STATE, wall, wall::undo);
        fails("new task", INDEX, wall, () -> wall.task(0, 0));
        TheatreWall other = new TheatreWall();
        wall.add(1, 0, 0);
        due("objects apart", 0, () -> other.count(0));
    }

    private static void promise02() {
        TheatreWall wall = new TheatreWall();
        fails("add length 0", ARGUMENT, wall, () -> wall.add(0, 0, 0));
        fails("add length 10", ARGUMENT, wall, () -> wall.add(10, 0, 0));
        fails("add person -2", ARGUMENT, wall, () -> wall.add(1, -2, 0));
        fails("add person 6", ARGUMENT, wall, () -> wall.add(1, 6, 0));
        fails("add hall -2", ARGUMENT, wall, () -> wall.add(1, 0, -2));
        fails("add hall 4", ARGUMENT, wall, () -> wall.add(1, 0, 4));
        fails("add least", ARGUMENT, wall, () -> wall.add(Integer.MIN_VALUE, Integer.MIN_VALUE, Integer.MIN_VALUE));
        fails("add greatest", ARGUMENT, wall, () -> wall.add(Integer.MAX_VALUE, 0, 0));
        due("nothing saved", 0, () -> wall.count(8));
        due("add first", 0, () -> wall.add(1, NONE, NONE));
        due("add last of all", 1, () -> wall.add(9, 5, 3));
        int[] due = {9, 5, 3, 0, 0, 0, 0};
        for (int what = 0; what < due.length; what++) {
            int number = what;
            due("property of the added " + what, due[what], () -> wall.task(1, number));
        }
        due("add saves", 2, () -> wall.count(8));
        for (int task = 2; task < 12; task++) {
            int number = task;
            due("add number " + task, number, () -> wall.add(1, NONE, NONE));
        }
        fails("add a 13th", STATE, wall, () -> wall.add(1, NONE, NONE));
        fails("add a wrong 13th", ARGUMENT, wall, () -> wall.add(0, NONE, NONE));
        wall.remove(11);
        wall.add(2, 1, 1);
        due("an added one forgets what stood there", 0, () -> wall.task(11, 4));
    }

    private static void promise03() {
        TheatreWall wall = wallOf(1, 2, 3, 4, 5);
        wall.need(2, 1, true);
        wall.need(3, 1, true);
        wall.need(4, 0, true);
        wall.need(4, 1, true);
        wall.need(4, 3, true);
        wall.change(4, 3, 7);
        fails("remove -1", INDEX, wall, () -> wall.remove(-1));
        fails("remove 5", INDEX, wall, () -> wall.remove(5));
        due("remove tells how many needed it", 3, () -> wall.remove(1));
        due("removed", 4, () -> wall.count(0));
        int[] lengths = {1, 3, 4, 5};
        int[] masks = {0, 0, 0, 0b101};
        for (int task = 0; task < 4; task++) {
            int number = task;
            due("length behind remove", lengths[task], () -> wall.task(number, 0));
            due("mask behind remove", masks[task], () -> wall.task(number, 4));
        }
        due("earliest behind remove", 7, () -> wall.task(3, 3));
        due("remove the last", 0, () -> wall.remove(3));
        wall.undo();
        due("remove is undone", 0b101, () -> wall.task(3, 4));
        wall.undo();
        due("both are undone", 0b1011, () -> wall.task(4, 4));
        TheatreWall queue = queueOf(2, 3, 4);
        queue.remove(1);
        begins("the others are laid again", queue, 0, 2);
        due("the end is earlier", 6, () -> queue.count(3));
        TheatreWall full = wallOf(1, 1, 1, 1, 1, 1, 1, 1, 1, 1, 1, 1);
        full.need(11, 0, true);
        full.need(11, 10, true);
        due("remove 0 of 12", 1, () -> full.remove(0));
        due("mask moves down", 1 << 9, () -> full.task(10, 4));
        fails("remove 11 of 11", INDEX, full, () -> full.remove(11));
    }

    private static void promise04() {
        TheatreWall wall = wallOf(2, 3, 4);
        fails("need of no task", INDEX, wall, () -> wall.need(3, 0, true));
        fails("need of -1", INDEX, wall, () -> wall.need(-1, 0, true));
        fails("need no task below", INDEX, wall, () -> wall.need(1, -1, true));
        fails("need no task above", INDEX, wall, () -> wall.need(1, 3, true));
        fails("need itself", ARGUMENT, wall, () -> wall.need(1, 1, true));
        fails("need a higher one", ARGUMENT, wall, () -> wall.need(1, 2, false));
        due("nothing saved", 3, () -> wall.count(8));
        due("need it", 0, () -> wall.need(2, 0, true));
        due("need it again", 1, () -> wall.need(2, 0, true));
        begins("needs", wall, 0, 0, 2);
        due("need another", 0, () -> wall.need(2, 1, true));
        begins("needs both", wall, 0, 0, 3);
        due("mask of needs", 0b11, () -> wall.task(2, 4));
        due("need not", 1, () -> wall.need(2, 0, false));
        due("need not again", 0, () -> wall.need(2, 0, false));
        due("mask with one", 0b10, () -> wall.task(2, 4));
        due("saves also what changes nothing", 6, () -> wall.count(8));
        wall.undo();
        wall.undo();
        due("need is undone", 0b11, () -> wall.task(2, 4));
    }

    private static void promise05() {
        TheatreWall wall = wallOf(2, 3);
        fails("change no task", INDEX, wall, () -> wall.change(2, 0, 1));
        fails("change -1", INDEX, wall, () -> wall.change(-1, 9, 1));
        fails("change what -1", ARGUMENT, wall, () -> wall.change(0, -1, 1));
        fails("change what 4", ARGUMENT, wall, () -> wall.change(0, 4, 1));
        int[] least = {1, NONE, NONE, 0};
        int[] most = {9, 5, 3, 60};
        int[] before = {3, NONE, NONE, 0};
        for (int what = 0; what < 4; what++) {
            int number = what;
            fails("change below " + what, ARGUMENT, wall, () -> wall.change(1, number, least[number] - 1));
            fails("change above " + what, ARGUMENT, wall, () -> wall.change(1, number, most[number] + 1));
            due("change to the most " + what, before[what], () -> wall.change(1, number, most[number]));
            due("changed " + what, most[what], () -> wall.task(1, number));
            due("the other is as it was " + what, what == 0 ? 2 : before[what], () -> wall.task(0, number));
            due("change to the least " + what, most[what], () -> wall.change(1, number, least[number]));
            due("the same again " + what, least[what], () -> wall.change(1, number, least[number]));
        }
        due("saved states", 6, () -> wall.count(8));
        wall.undo();
        wall.undo();
        due("change is undone", 60, () -> wall.task(1, 3));
        wall.change(0, 3, 10);
        begins("the earliest day holds", wall, 10, 60);
    }

    private static void promise06() {
        TheatreWall wall = queueOf(3, 4, 2);
        fails("slip no task", INDEX, wall, () -> wall.slip(3, 0));
        fails("slip -1", INDEX, wall, () -> wall.slip(-1, 1));
        fails("slip 0 days", ARGUMENT, wall, () -> wall.slip(0, 0));
        fails("slip 21 days", ARGUMENT, wall, () -> wall.slip(0, 21));
        due("nothing saved", 3, () -> wall.count(8));
        begins("ahead of the slip", wall, 0, 3, 7);
        due("slip into the free days", 1, () -> wall.slip(1, 1));
        due("earliest is begin and days", 4, () -> wall.task(1, 3));
        begins("behind the slip", wall, 0, 4, 8);
        due("slip far", 18, () -> wall.slip(1, 20));
        begins("the last one comes ahead", wall, 0, 24, 3);
        due("slip is undone", 4, wall::undo);
        due("earliest is undone", 4, () -> wall.task(1, 3));

        TheatreWall late = wallOf(1, 2);
        late.change(0, 3, 50);
        fails("slip above 60", STATE, late, () -> late.slip(0, 11));
        due("slip to 60", 10, () -> late.slip(0, 10));
        fails("slip above 60 again", STATE, late, () -> late.slip(0, 1));
        fails("wrong days first", ARGUMENT, late, () -> late.slip(0, 21));
        late.borrow(1, 0, 0);
        late.change(1, 2, 1);
        fails("slip of a stuck one", STATE, late, () -> late.slip(1, 1));

        // Who slips gives way to others.
        TheatreWall earlier = new TheatreWall();
        earlier.add(9, 0, NONE);
        earlier.add(1, 0, 0);
        earlier.add(1, NONE, 0);
        earlier.borrow(0, 0, 9);
        earlier.change(2, 3, 9);
        begins("ahead of it", earlier, 0, 9, NONE);
        due("a slip lets another be laid", 0, () -> earlier.slip(1, 1));
        begins("behind it", earlier, 0, NONE, 9);
        TheatreWall stuck = new TheatreWall();
        stuck.add(2, NONE, 0);
        stuck.add(1, NONE, NONE);
        stuck.borrow(0, 0, 1);
        due("a slip makes it stuck, the end is earlier", -1, () -> stuck.slip(0, 1));
    }

    private static void promise07() {
        TheatreWall wall = new TheatreWall();
        wall.add(3, NONE, 0);
        wall.add(2, NONE, 0);
        wall.add(2, NONE, 3);
        fails("borrow hall 4", INDEX, wall, () -> wall.borrow(4, 5, 4));
        fails("borrow hall -1", INDEX, wall, () -> wall.borrow(-1, 0, 0));
        fails("borrow from -1", ARGUMENT, wall, () -> wall.borrow(0, -1, 4));
        fails("borrow from 100", ARGUMENT, wall, () -> wall.borrow(0, 100, 100));
        fails("borrow to 100", ARGUMENT, wall, () -> wall.borrow(0, 0, 100));
        fails("borrow backwards", ARGUMENT, wall, () -> wall.borrow(0, 5, 4));
        due("borrow for just enough", 3, () -> wall.borrow(0, 10, 14));
        begins("in borrowed days", wall, 10, 13, 0);
        due("first day", 10, () -> wall.hall(0, 0));
        due("last day", 14, () -> wall.hall(0, 1));
        due("borrow for a day less", 2, () -> wall.borrow(0, 10, 13));
        begins("one is stuck", wall, 10, NONE, 0);
        due("borrow for one day", 1, () -> wall.borrow(0, 99, 99));
        due("borrow the last hall to the end", 1, () -> wall.borrow(3, 98, 99));
        begins("up to day 99", wall, NONE, NONE, 98);
        due("undo it", 5, wall::undo);
        begins("undone", wall, NONE, NONE, 0);
    }

    /** Five tasks of one person, that each rule lays in another order. */
    private static TheatreWall wallOfRules() {
        TheatreWall wall = queueOf(2, 5, 5, 1, 3);
        wall.need(4, 3, true);
        wall.change(0, 3, 1);
        return wall;
    }

    private static void promise08() {
        TheatreWall wall = wallOfRules();
        fails("rule -1", ARGUMENT, wall, () -> wall.rule(-1));
        fails("rule 4", ARGUMENT, wall, () -> wall.rule(4));
        begins("rule 0", wall, 1, 3, 8, 0, 13);
        due("to rule 1", 0, () -> wall.rule(1));
        begins("rule 1, the longest", wall, 10, 0, 5, 12, 13);
        due("to rule 2", 1, () -> wall.rule(2));
        begins("rule 2, that most follow", wall, 1, 3, 8, 0, 13);
        wall.need(2, 1, true);
        wall.need(3, 1, true);
        begins("rule 2, with more needs", wall, 6, 0, 8, 5, 13);
        due("to rule 3", 2, () -> wall.rule(3));
        begins("rule 3, the latest earliest day", wall, 1, 3, 8, 13, 14);
        wall.change(1, 3, 2);
        begins("rule 3, another one is latest", wall, 7, 2, 9, 14, 15);
        due("the same again", 3, () -> wall.rule(3));
        due("back to rule 0", 3, () -> wall.rule(0));
        due("undo", 5, wall::undo);
        due("undone", 3, wall::setting);
    }

    private static void promise09() {
        TheatreWall wall = new TheatreWall();
        fails("append 32", ARGUMENT, wall, () -> wall.append(32));
        fails("append 127", ARGUMENT, wall, () -> wall.append(127));
        fails("append -1", ARGUMENT, wall, () -> wall.append(-1));
        fails("append 'd' and 65536", ARGUMENT, wall, () -> wall.append(65536 + 'd'));
        due("append the least", 1, () -> wall.append(33));
        due("append the greatest", 2, () -> wall.append(126));
        for (int length = 3; length <= 60; length++) {
            due("append up to " + length, length, () -> wall.append('x'));
        }
        fails("append a 61st", STATE, wall, () -> wall.append('x'));
        fails("append a wrong 61st", ARGUMENT, wall, () -> wall.append(32));
        due("append saves nothing", 0, () -> wall.count(8));
    }

    private static void promise10() {
        TheatreWall wall = new TheatreWall();
        due("clear nothing", 0, wall::clearBuffer);
        type(wall, "d1;d2");
        due("clear", 5, wall::clearBuffer);
        due("clear again", 0, wall::clearBuffer);
        type(wall, "d3");
        due("no error from before", 2, wall::firstError);
        due("add what came behind", 1, wall::addAll);
        due("its length", 3, () -> wall.task(0, 0));
        due("saves nothing", 1, () -> wall.count(8));
    }

    private static void firstError(String text, int due) {
        TheatreWall wall = new TheatreWall();
        type(wall, text);
        due("first error of " + text, due, wall::firstError);
        due("again first error of " + text, due, wall::firstError);
        due("all of it is there: " + text, text.length(), wall::clearBuffer);
    }

    private static void promise11() {
        String[] right = {"", "d", "d1", "d9p", "d1p0", "d1p5h3", "d1p5h3n", "d1h0", "d1na", "d1nabcdefghijkl",
            "d1nl", "d1;", "d1;d", "d1nadh;d2p5h3ndh", "d1p0;d1h0;d1n", "d5p2nb", "d1hh", "d1h3nh"};
        for (String text : right) {
            firstError(text, text.equals("d1hh") ? 3 : text.length());
        }
        String[] wrongAtTheEnd = {"x", ";", "1", "p", "D", "d0", "d:", "d/", "dd", "d;", "d11", "d1d", "d1pp", "d1p6",
            "d1p/", "d1p5p", "d1p5d", "d1h4", "d1h/", "d1h3h", "d1h3p", "d1nn", "d1n;", "d1nm", "d1n`", "d1nA",
            "d1naa", "d1nba", "d1nl1", "d1nll", "d1nbp", "d1;;", "d1;p", "d1;1", "d1p;", "d1h;", "d1na;x", "d1nlm"};
        for (String text : wrongAtTheEnd) {
            firstError(text, text.length() - 1);
            firstError(text + "d1", text.length() - 1);
            firstError("d2p1;" + text, text.length() + 4);
        }
        firstError("d1;d1;d1;d1;d1;d1;d1;d1;d1;d1;d1;d1;d1;d1;d1;d1;d1;d1;d1;d1;", 60);
        firstError("d1;d1;d1;d1;d1;d1;d1;d1;d1;d1;d1;d1;d1;d1;d1;d1;d1;d1;d1;d1x", 59);
    }

    private static void addFails(String text, String due, int... lengths) {
        TheatreWall wall = wallOf(lengths);
        type(wall, text);
        fails("addAll of " + text, due, wall, wall::addAll);
        due("the buffer stays: " + text, text.length(), wall::clearBuffer);
        due("the tasks stay: " + text, lengths.length, () -> wall.count(0));
    }

    private static void promise12() {
        for (String text : new String[] {"", "d", "d1;", "d1p", "d1h", "d1n", "x", "d1x", "d1d1", "d1;d", "d1nba"}) {
            addFails(text, ARGUMENT);
            addFails(text, ARGUMENT, 1, 1, 1, 1, 1, 1, 1, 1, 1, 1, 1, 1);
        }
        addFails("d1na", STATE);
        addFails("d1;d1nb", STATE);
        addFails("d1;d1na;d1nac", STATE);
        addFails("d1nl", STATE, 1, 1, 1);
        addFails("d1nd", STATE, 1, 1, 1);
        addFails("d1", STATE, 1, 1, 1, 1, 1, 1, 1, 1, 1, 1, 1, 1);
        addFails("d1;d1", STATE, 1, 1, 1, 1, 1, 1, 1, 1, 1, 1, 1);
        addFails("d1;d1;d1;d1;d1;d1;d1;d1;d1;d1;d1;d1;d1", STATE);

        TheatreWall wall = wallOf(4, 4);
        wall.change(1, 3, 5);
        type(wall, "d2p5h3nab;d9;d1p0nd;d3h0nace;d1na");
        due("addAll", 7, wall::addAll);
        int[][] due = {{2, 5, 3, 0, 0b11}, {9, NONE, NONE, 0, 0}, {1, 0, NONE, 0, 0b1000},
            {3, NONE, 0, 0, 0b10101}, {1, NONE, NONE, 0, 1}};
        for (int i = 0; i < due.length; i++) {
            for (int what = 0; what < 5; what++) {
                int task = i + 2;
                int number = what;
                due("added task " + task + " property " + what, due[i][what], () -> wall.task(task, number));
            }
        }
        begins("the added are laid", wall, 0, 5, 9, 0, 9, 11, 4);
        due("the buffer is cleared", 0, wall::clearBuffer);
        due("one call to undo", 4, () -> wall.count(8));
        type(wall, "d7");
        due("undo them all", 3, wall::undo);
        due("none of them is left", 2, () -> wall.count(0));
        due("the buffer is not undone", 2, wall::firstError);

        TheatreWall full = new TheatreWall();
        type(full, "d1;d1;d1;d1;d1;d1;d1;d1;d1;d1;d1;d1nabcdefghijk");
        due("twelve at once", 12, full::addAll);
        due("that needs all the others", 0b11111111111, () -> full.task(11, 4));
    }

    private static void promise13() {
        TheatreWall wall = new TheatreWall();
        fails("undo without", STATE, wall, wall::undo);
        for (int task = 0; task < 8; task++) {
            wall.add(task + 1, NONE, NONE);
        }
        due("six are saved at most", 6, () -> wall.count(8));
        for (int left = 5; left >= 0; left--) {
            int number = left;
            due("undo", left, wall::undo);
            due("tasks behind it", number + 2, () -> wall.count(0));
            due("end behind it", number + 2, () -> wall.count(3));
        }
        fails("undo no more", STATE, wall, wall::undo);
        wall.add(9, NONE, NONE);
        due("what is undone comes not back", 0, wall::undo);
        due("tasks", 2, () -> wall.count(0));
        due("length", 2, () -> wall.task(1, 0));
    }

    private static void undoes(String what, TheatreWall wall, Call call) {
        long before = wall.digest();
        int saved = wall.count(8);
        outcome(call);
        due(what + " saves one", saved + 1, () -> wall.count(8));
        due(what + " is undone", saved, wall::undo);
        same("all is as before " + what, before, wall.digest());
    }

    private static void savedStatesOfEachUndoable() {
        TheatreWall wall = new TheatreWall();
        wall.add(3, 1, 1);
        wall.add(2, 1, NONE);
        wall.need(1, 0, true);
        type(wall, "d1");
        undoes("add", wall, () -> wall.add(2, 2, 2));
        undoes("remove", wall, () -> wall.remove(0));
        undoes("need", wall, () -> wall.need(1, 0, false));
        undoes("need that is so", wall, () -> wall.need(1, 0, true));
        undoes("change of a length", wall, () -> wall.change(0, 0, 9));
        undoes("change of a person", wall, () -> wall.change(0, 1, 5));
        undoes("change of a hall", wall, () -> wall.change(0, 2, 3));
        undoes("change of an earliest day", wall, () -> wall.change(0, 3, 60));
        undoes("slip", wall, () -> wall.slip(0, 5));
        undoes("borrow", wall, () -> wall.borrow(1, 4, 8));
        undoes("rule", wall, () -> wall.rule(3));
        undoes("rule that is so", wall, () -> wall.rule(0));
        int saved = wall.count(8);
        wall.addAll();
        due("addAll saves one", saved + 1, () -> wall.count(8));
        due("addAll is undone", saved, wall::undo);
        due("addAll is undone, tasks", 2, () -> wall.count(0));
    }

    private static void promise14() {
        TheatreWall wall = new TheatreWall();
        wall.add(3, 0, 1);
        wall.add(4, 0, NONE);
        wall.add(2, NONE, 1);
        wall.add(5, 3, 2);
        wall.need(2, 0, true);
        wall.need(3, 0, true);
        wall.need(3, 2, true);
        wall.change(2, 3, 1);
        wall.borrow(1, 2, 20);
        wall.borrow(2, 0, 3);
        fails("task 4", INDEX, wall, () -> wall.task(4, 0));
        fails("task -1", INDEX, wall, () -> wall.task(-1, 9));
        fails("what 9", ARGUMENT, wall, () -> wall.task(0, 9));
        fails("what -1", ARGUMENT, wall, () -> wall.task(0, -1));
        // By 1 day the first one would be in the way of the second; by 2 the second is laid ahead of it.
        int[][] due = {
            {3, 0, 1, 0, 0, 2, 2, 2, 2},
            {4, 0, NONE, 0, 0, 0, 5, 0, 5},
            {2, NONE, 1, 1, 0b1, 1, 5, 2, 0},
            {5, 3, 2, 0, 0b101, 0, NONE, NONE, 0}};
        for (int task = 0; task < due.length; task++) {
            for (int what = 0; what < 9; what++) {
                int number = task;
                int property = what;
                due("task " + task + " property " + what, due[task][what], () -> wall.task(number, property));
            }
        }
        TheatreWall chain = wallOf(1, 1, 1, 1);
        chain.change(0, 2, 0);
        chain.change(0, 0, 2);
        chain.borrow(0, 5, 5);
        chain.need(1, 0, true);
        chain.need(2, 1, true);
        begins("who follows a stuck one is not laid", chain, NONE, NONE, NONE, 0);
        due("no days of waiting", 0, () -> chain.task(2, 8));

        TheatreWall gap = new TheatreWall();
        gap.add(2, 0, NONE);
        gap.add(3, 0, NONE);
        gap.add(2, 0, NONE);
        gap.add(1, 0, NONE);
        gap.change(1, 3, 4);
        begins("the gap takes who fits in", gap, 0, 4, 2, 7);
        gap.change(2, 0, 3);
        begins("the gap is too small", gap, 0, 4, 7, 2);
        TheatreWall both = new TheatreWall();
        both.add(3, 0, 0);
        both.add(2, 1, 1);
        both.add(4, 0, 1);
        both.add(2, 1, 0);
        begins("person and hall must be free", both, 0, 0, 3, 3);
    }

    private static void slackOfSeveralKinds() {
        TheatreWall wall = wallOf(2, 9);
        due("slack up to the end", 7, () -> wall.task(0, 7));
        due("no slack", 0, () -> wall.task(1, 7));
        wall.change(0, 0, 8);
        due("a slack of one day", 1, () -> wall.task(0, 7));
        due("the only critical one", 1, () -> wall.count(5));
        wall.change(0, 0, 2);
        wall.change(1, 3, 60);
        due("no more than 30", 30, () -> wall.task(0, 7));
        due("the looks change nothing", 0, () -> wall.task(0, 3));

        // The task itself may become stuck for its slack, when another one is laid instead.
        TheatreWall crowd = queueOf(9, 9, 9, 9, 9, 9, 9, 9, 9, 9, 9, 9);
        due("laid", 11, () -> crowd.count(1));
        due("the eleventh begins", 90, () -> crowd.task(10, 6));
        due("beyond the last day", 30, () -> crowd.task(10, 7));

        // A lesser slack does not hold, but a greater one does: with 5 days it comes behind task 1.
        TheatreWall holes = new TheatreWall();
        holes.add(2, 0, NONE);
        holes.add(5, 0, NONE);
        holes.add(2, 1, NONE);
        holes.change(2, 3, 5);
        begins("holes", holes, 0, 2, 5);
        due("the greatest number holds", 5, () -> holes.task(0, 7));

        TheatreWall rule = wallOf(3, 5, 1);
        rule.rule(3);
        due("slack by rule 3", 2, () -> rule.task(0, 7));
    }

    private static void promise15() {
        TheatreWall wall = queueOf(2, 3);
        wall.add(1, 5, NONE);
        wall.change(1, 3, 4);
        wall.change(2, 3, 60);
        fails("person 6", INDEX, wall, () -> wall.personOn(6, 0));
        fails("person -1", INDEX, wall, () -> wall.personOn(-1, 0));
        fails("day 100", INDEX, wall, () -> wall.personOn(0, 100));
        fails("day -1", INDEX, wall, () -> wall.personOn(0, -1));
        int[] due = {0, 0, NONE, NONE, 1, 1, 1, NONE};
        for (int day = 0; day < due.length; day++) {
            int number = day;
            due("person 0 on " + day, due[day], () -> wall.personOn(0, number));
        }
        due("person 5 on 60", 2, () -> wall.personOn(5, 60));
        due("person 5 on 61", NONE, () -> wall.personOn(5, 61));
        due("person 1", NONE, () -> wall.personOn(1, 0));
        due("on the last day", NONE, () -> wall.personOn(0, 99));
        wall.change(0, 2, 0);
        wall.borrow(0, 3, 3);
        due("a stuck one is nowhere", NONE, () -> wall.personOn(0, 0));
        TheatreWall full = queueOf(9, 9, 9, 9, 9, 9, 9, 9, 9, 9, 9, 1);
        due("on day 99 too", 11, () -> full.personOn(0, 99));
    }

    private static void promise16() {
        TheatreWall wall = new TheatreWall();
        wall.add(2, NONE, 3);
        wall.add(1, 0, 3);
        wall.add(1, 0, NONE);
        fails("hall 4", INDEX, wall, () -> wall.hallOn(4, 0));
        fails("hall -1", INDEX, wall, () -> wall.hallOn(-1, 0));
        fails("day 100", INDEX, wall, () -> wall.hallOn(0, 100));
        fails("day -1", INDEX, wall, () -> wall.hallOn(0, -1));
        int[] due = {0, 0, 1, NONE};
        for (int day = 0; day < due.length; day++) {
            int number = day;
            due("hall 3 on " + day, due[day], () -> wall.hallOn(3, number));
        }
        due("hall 0", NONE, () -> wall.hallOn(0, 0));
        wall.borrow(3, 98, 99);
        due("on day 98", 0, () -> wall.hallOn(3, 98));
        due("on day 99", 0, () -> wall.hallOn(3, 99));
        due("on day 97", NONE, () -> wall.hallOn(3, 97));
    }

    private static void promise17() {
        TheatreWall wall = new TheatreWall();
        wall.add(2, NONE, 3);
        wall.add(5, 0, 3);
        wall.add(9, NONE, 3);
        wall.add(1, NONE, 0);
        wall.borrow(3, 7, 15);
        fails("hall 4", INDEX, wall, () -> wall.hall(4, 9));
        fails("hall -1", INDEX, wall, () -> wall.hall(-1, 0));
        fails("what 4", ARGUMENT, wall, () -> wall.hall(0, 4));
        fails("what -1", ARGUMENT, wall, () -> wall.hall(0, -1));
        int[][] due = {{0, 99, 1, 1}, {0, 99, 0, 0}, {0, 99, 0, 0}, {7, 15, 7, 2}};
        for (int hall = 0; hall < 4; hall++) {
            for (int what = 0; what < 4; what++) {
                int number = hall;
                int property = what;
                due("hall " + hall + " property " + what, due[hall][what], () -> wall.hall(number, property));
            }
        }
    }

    private static void promise18() {
        TheatreWall wall = new TheatreWall();
        wall.add(3, 0, NONE);
        wall.add(4, 0, NONE);
        wall.add(2, NONE, 1);
        wall.add(6, NONE, NONE);
        wall.add(1, NONE, NONE);
        wall.add(2, NONE, NONE);
        wall.need(3, 2, true);
        wall.need(4, 3, true);
        wall.need(5, 0, true);
        wall.borrow(1, 50, 50);
        fails("count 9", ARGUMENT, wall, () -> wall.count(9));
        fails("count -1", ARGUMENT, wall, () -> wall.count(-1));
        int[] due = {6, 3, 3, 7, 18, 2, 3, 9, 6};
        for (int what = 0; what < due.length; what++) {
            int number = what;
            due("count " + what, due[what], () -> wall.count(number));
        }
        due("slack of the first", 0, () -> wall.task(0, 7));
        due("slack of the second", 0, () -> wall.task(1, 7));
        due("slack of the last", 2, () -> wall.task(5, 7));
        wall.remove(3);
        due("the longest row without it", 5, () -> wall.count(7));
        wall.need(3, 1, true);
        wall.need(4, 3, true);
        due("the longest row of three", 7, () -> wall.count(7));
        TheatreWall stuck = new TheatreWall();
        stuck.add(2, NONE, 0);
        stuck.borrow(0, 0, 0);
        due("no end without laid ones", 0, () -> stuck.count(3));
        due("no critical ones", 0, () -> stuck.count(5));
        due("one is stuck", 1, () -> stuck.count(2));
        due("a row of one", 2, () -> stuck.count(7));
    }

    private static void promise19() {
        TheatreWall wall = new TheatreWall();
        for (int rule = 3; rule >= 0; rule--) {
            wall.rule(rule);
            due("setting", rule, wall::setting);
        }
    }

    private static void promise20() {
        TheatreWall wall = wallOfRules();
        fails("ifRule of 4", ARGUMENT, wall, () -> wall.ifRule(4, 0));
        fails("ifRule of -1", ARGUMENT, wall, () -> wall.ifRule(-1, 0));
        fails("ifRule with 3", ARGUMENT, wall, () -> wall.ifRule(0, 3));
        fails("ifRule with -1", ARGUMENT, wall, () -> wall.ifRule(0, -1));
        wall.add(9, NONE, 0);
        wall.add(8, NONE, 0);
        wall.borrow(0, 0, 8);
        long before = wall.digest();
        // The waits: of 0 to 4, and none of 5 and 6, which are laid on day 0 or not at all.
        int[][] due = {{16, 6, 23}, {16, 6, 26}, {16, 6, 23}, {16, 6, 23}};
        for (int rule = 0; rule < 4; rule++) {
            for (int what = 0; what < 3; what++) {
                int number = rule;
                int property = what;
                due("ifRule " + rule + " " + what, due[rule][what], () -> wall.ifRule(number, property));
            }
        }
        same("ifRule changes nothing", before, wall.digest());
        wall.rule(1);
        due("ifRule does not ask for the present one", 23, () -> wall.ifRule(0, 2));
        TheatreWall empty = new TheatreWall();
        due("ifRule of nothing", 0, () -> empty.ifRule(3, 0) + empty.ifRule(3, 1) + empty.ifRule(3, 2));
    }

    private static void promise21() {
        TheatreWall empty = new TheatreWall();
        due("best rule of nothing", 0, empty::bestRule);
        empty.rule(2);
        due("the lowest of equal ones", 0, empty::bestRule);

        TheatreWall end = new TheatreWall();
        end.add(1, NONE, 0);
        end.add(2, NONE, 0);
        end.add(3, NONE, 0);
        end.borrow(0, 0, 4);
        due("two by rule 0", 2, () -> end.ifRule(0, 1));
        due("two by rule 1", 2, () -> end.ifRule(1, 1));
        due("ends by rule 0", 3, () -> end.ifRule(0, 0));
        due("ends by rule 1", 5, () -> end.ifRule(1, 0));
        due("of as many tasks the earliest end", 0, end::bestRule);

        TheatreWall longest = new TheatreWall();
        longest.add(2, 0, NONE);
        longest.add(5, 0, NONE);
        longest.add(5, NONE, NONE);
        longest.need(2, 1, true);
        due("by rule 0 it ends later", 12, () -> longest.ifRule(0, 0));
        due("by rule 1 earlier", 10, () -> longest.ifRule(1, 0));
        due("by rule 2 too", 10, () -> longest.ifRule(2, 0));
        due("the best is the lower one", 1, longest::bestRule);
        due("the rule stays", 0, longest::setting);
        longest.add(9, NONE, NONE);
        longest.need(3, 0, true);
        due("by rule 0 it ends as before", 12, () -> longest.ifRule(0, 0));
        due("by rule 1 later", 16, () -> longest.ifRule(1, 0));
        due("the best is now", 0, longest::bestRule);

        TheatreWall more = new TheatreWall();
        more.add(1, NONE, 0);
        more.add(3, NONE, 0);
        more.borrow(0, 0, 3);
        more.change(0, 3, 1);
        more.add(9, NONE, NONE);
        more.need(2, 1, true);
        due("one is in the way", 1, () -> more.ifRule(0, 1));
        due("none is in the way", 3, () -> more.ifRule(1, 1));
        due("more tasks go ahead of an earlier end", 1, more::bestRule);
        due("though the end is later", 12, () -> more.ifRule(1, 0));
    }

    private static void promise22() {
        TheatreWall wall = new TheatreWall();
        wall.add(3, 0, NONE);
        wall.add(4, 0, NONE);
        wall.add(2, 5, 1);
        wall.add(2, 5, 1);
        wall.add(2, 5, NONE);
        fails("ifFreed 6", INDEX, wall, () -> wall.ifFreed(6));
        fails("ifFreed -1", INDEX, wall, () -> wall.ifFreed(-1));
        due("end", 7, () -> wall.count(3));
        due("without person 0", 6, () -> wall.ifFreed(0));
        due("without person 5", 7, () -> wall.ifFreed(5));
        due("without person 1", 7, () -> wall.ifFreed(1));
        wall.add(9, 5, NONE);
        due("end", 15, () -> wall.count(3));
        due("the halls are still asked for", 9, () -> wall.ifFreed(5));
        due("persons stay", 5, () -> wall.task(5, 1));
        TheatreWall two = queueOf(3, 4);
        two.add(9, NONE, NONE);
        two.need(2, 1, true);
        due("the first of two is freed too", 13, () -> two.ifFreed(0));
        due("as without freeing", 16, () -> two.count(3));
        TheatreWall empty = new TheatreWall();
        due("ifFreed of nothing", 0, () -> empty.ifFreed(5));
    }

    private static void promise23() {
        TheatreWall wall = wallOf(2, 4, 4, 1);
        fails("worstSlip 0", ARGUMENT, wall, () -> wall.worstSlip(0));
        fails("worstSlip 21", ARGUMENT, wall, () -> wall.worstSlip(21));
        due("the lowest of several", 1, () -> wall.worstSlip(1));
        due("the lowest of several by 20", 1, () -> wall.worstSlip(20));
        wall.need(3, 0, true);
        wall.change(3, 0, 3);
        due("what follows is late too", 0, () -> wall.worstSlip(1));
        wall.change(3, 0, 1);
        due("slips change nothing", 0, () -> wall.task(1, 3));
        wall.change(0, 3, 50);
        due("the latest", 0, () -> wall.worstSlip(10));
        due("who could not slip is passed by", 1, () -> wall.worstSlip(11));
        TheatreWall none = wallOf(1);
        none.change(0, 3, 60);
        due("none could", NONE, () -> none.worstSlip(1));
        TheatreWall stuck = new TheatreWall();
        stuck.add(2, NONE, 0);
        stuck.borrow(0, 0, 0);
        due("a stuck one could not", NONE, () -> stuck.worstSlip(1));
        TheatreWall empty = new TheatreWall();
        due("of nothing", NONE, () -> empty.worstSlip(20));
        TheatreWall gone = new TheatreWall();
        gone.add(2, NONE, 0);
        gone.borrow(0, 0, 1);
        due("who becomes stuck could slip", 0, () -> gone.worstSlip(1));
    }

    private static void promise24() {
        TheatreWall wall = new TheatreWall();
        same("busyness of nothing", 0.0, wall.busyness());
        wall.add(3, 0, NONE);
        same("busyness of one", 1.0, wall.busyness());
        wall.add(4, NONE, NONE);
        wall.add(9, NONE, 0);
        wall.borrow(0, 0, 7);
        wall.add(3, 0, NONE);
        same("busyness of those that are laid", 10.0 / 6.0, wall.busyness());
        wall.change(0, 3, 60);
        same("busyness of few days", 10.0 / 63.0, wall.busyness());
        TheatreWall stuck = new TheatreWall();
        stuck.add(9, NONE, 0);
        stuck.borrow(0, 0, 7);
        same("busyness of a stuck one", 0.0, stuck.busyness());
    }

    /** The digest as the document lists it, by the other calls. */
    private static long digestOf(TheatreWall wall, String text) {
        java.util.ArrayList<Long> values = new java.util.ArrayList<>();
        for (int what = 0; what <= 8; what++) {
            values.add((long) wall.count(what));
        }
        values.add((long) wall.setting());
        for (int task = 0; task < wall.count(0); task++) {
            for (int what = 0; what <= 8; what++) {
                values.add((long) wall.task(task, what));
            }
        }
        for (int hall = 0; hall < 4; hall++) {
            for (int what = 0; what <= 3; what++) {
                values.add((long) wall.hall(hall, what));
            }
        }
        for (int person = 0; person < 6; person++) {
            for (int day = 0; day <= 9; day++) {
                values.add((long) wall.personOn(person, day));
            }
            values.add((long) wall.ifFreed(person));
        }
        for (int rule = 0; rule < 4; rule++) {
            for (int what = 0; what <= 2; what++) {
                values.add((long) wall.ifRule(rule, what));
            }
        }
        values.add((long) wall.bestRule());
        values.add((long) wall.worstSlip(3));
        values.add(Double.doubleToLongBits(wall.busyness()));
        values.add((long) text.length());
        for (char c : text.toCharArray()) {
            values.add((long) c);
        }
        long hash = 2791;
        for (long value : values) {
            hash = 31 * hash + value;
        }
        return hash;
    }

    private static void promise25() {
        TheatreWall wall = new TheatreWall();
        due("digest of nothing", digestOf(wall, ""), wall::digest);
        type(wall, "d3p1h2;d2~");
        due("digest of a text", digestOf(wall, "d3p1h2;d2~"), wall::digest);
        wall.clearBuffer();
        type(wall, "d3p1h2;d4p1na;d2h2na;d9p5;d1h0;d5h0nc");
        wall.addAll();
        wall.borrow(0, 2, 6);
        wall.rule(2);
        due("digest of tasks", digestOf(wall, ""), wall::digest);
        due("digest again", digestOf(wall, ""), wall::digest);
        TheatreWall slips = wallOf(3, 5, 1);
        slips.need(2, 0, true);
        slips.change(1, 3, 57);
        due("worst slip of 3", 1, () -> slips.worstSlip(3));
        due("worst slip of 4", 0, () -> slips.worstSlip(4));
        due("digest with slips", digestOf(slips, ""), slips::digest);
        TheatreWall rules = queueOf(2, 5);
        rules.add(5, NONE, NONE);
        rules.need(2, 1, true);
        due("best rule is not 0", 1, rules::bestRule);
        due("digest with a best rule", digestOf(rules, ""), rules::digest);
        // The bits of busyness, over many quotients below and above 1.
        TheatreWall share = new TheatreWall();
        for (int length = 1; length <= 9; length++) {
            share.add(length, length % 6, NONE);
            for (int earliest = 0; earliest <= 60; earliest += 7) {
                share.change(0, 3, earliest);
                due("digest with a share", digestOf(share, ""), share::digest);
            }
        }
    }
}
