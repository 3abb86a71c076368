/** The boundary cases of promises 1 to 8, the calls that change tasks, halls and the rule, sentence by sentence. */
public final class ChangesEdgesTest extends Checks {
    private static final Maker BUSY = ChangesEdgesTest::busy;
    private static final Maker FULL = ChangesEdgesTest::full;

    private ChangesEdgesTest() {
    }

    public static void main(String[] args) {
        newObject();
        addInRange();
        addRefused();
        remove();
        needIsSo();
        needRefused();
        changeInRange();
        changeRefused();
        slip();
        slipRefused();
        borrow();
        borrowRefused();
        rule();
        firstNamed();
        end("ChangesEdgesTest");
    }

    /** Five tasks, one of which is stuck, with six saved states and a text. */
    private static TheatreWall busy() {
        TheatreWall wall = wallWith(2, 1, 3, 1, 4, 2);
        wall.add(2, NONE, 0);
        wall.need(2, 0, true);
        wall.need(3, 2, true);
        wall.change(1, 3, 60);
        wall.rule(2);
        wall.borrow(0, 5, 5);
        type(wall, "d1na;");
        return wall;
    }

    private static TheatreWall full() {
        TheatreWall wall = wallWith(0, 0, 1, 2, 3, 4, 5, 6, 7, 8, 9, 1, 2, 3);
        type(wall, "d1");
        return wall;
    }

    private static void newObject() {
        said("Creates an empty wall, with an empty buffer.");
        TheatreWall first = new TheatreWall();
        TheatreWall second = new TheatreWall();
        long empty = second.digest();
        first.add(9, 0, 0);
        first.borrow(0, 1, 1);
        first.rule(3);
        type(first, "d1");
        same("what the one does is not seen in the other", empty, second.digest());
        same("a third one is empty too", empty, new TheatreWall().digest());
        for (int what = 0; what <= 8; what++) {
            int number = what;
            due("count " + what, 0, () -> second.count(number));
        }
        due("length of the buffer", 0, second::clearBuffer);
        fails("nothing is saved", STATE, second, second::undo);
    }

    private static void addInRange() {
        said("Adds a task that needs none, with the earliest day 0.");
        int[][] rows = {{1, NONE, NONE}, {1, 0, 0}, {9, 5, 3}, {9, NONE, 3}, {1, 5, NONE}};
        for (int[] row : rows) {
            TheatreWall wall = queueOf(1, 1);
            due("its number", 2, () -> wall.add(row[0], row[1], row[2]));
            for (int what = 0; what < 3; what++) {
                properties("property " + what, wall, what, wall.task(0, what), wall.task(1, what), row[what]);
            }
            due("earliest day", 0, () -> wall.task(2, 3));
            due("needs none", 0, () -> wall.task(2, 4));
            due("none follows", 0, () -> wall.task(2, 5));
        }
        TheatreWall again = wallOf(1, 1, 1);
        again.need(2, 1, true);
        again.change(2, 3, 60);
        again.remove(2);
        again.add(2, NONE, NONE);
        due("no earliest day of a removed one", 0, () -> again.task(2, 3));
        due("no needs of a removed one", 0, () -> again.task(2, 4));
        again.change(2, 3, 9);
        again.need(2, 0, true);
        again.undo();
        again.undo();
        again.undo();
        again.add(3, NONE, NONE);
        due("no earliest day of one that is undone", 0, () -> again.task(2, 3));
        due("no needs of one that is undone", 0, () -> again.task(2, 4));
    }

    private static void addRefused() {
        said("Throws `IllegalArgumentException` if an argument is out of range");
        for (Maker maker : new Maker[] {TheatreWall::new, BUSY, FULL}) {
            for (int length : outside(1, 9)) {
                refused("add length " + length, ARGUMENT, maker, w -> w.add(length, NONE, NONE));
            }
            for (int person : outside(NONE, 5)) {
                refused("add person " + person, ARGUMENT, maker, w -> w.add(1, person, NONE));
            }
            for (int hall : outside(NONE, 3)) {
                refused("add hall " + hall, ARGUMENT, maker, w -> w.add(1, NONE, hall));
            }
        }
        said("Throws `IllegalStateException` if there are 12 tasks");
        refused("add a 13th", STATE, FULL, w -> w.add(1, NONE, NONE));
        refused("add a 13th", STATE, FULL, w -> w.add(9, 5, 3));
        due("add a 12th", 11, () -> {
            TheatreWall wall = full();
            wall.remove(11);
            return wall.add(9, 5, 3);
        });
    }

    private static void remove() {
        said("Returns how many tasks needed it.");
        TheatreWall wall = wallOf(1, 1, 1, 1, 1, 1, 1, 1, 1, 1, 1, 1);
        for (int task = 1; task < 12; task++) {
            wall.need(task, 0, true);
        }
        due("none", 0, () -> wall.remove(11));
        due("ten", 10, () -> wall.remove(0));
        due("none any more", 0, () -> wall.remove(0));
        TheatreWall all = wallOf(1, 1, 1, 1, 1, 1, 1, 1, 1, 1, 1, 1);
        for (int task = 1; task < 12; task++) {
            all.need(task, 0, true);
        }
        due("eleven", 11, () -> all.remove(0));
        said("no task needs it any more");
        for (int task = 0; task < 11; task++) {
            int number = task;
            due("nothing is needed", 0, () -> all.task(number, 4));
        }
        begins("all begin on day 0", all, 0, 0, 0, 0, 0, 0, 0, 0, 0, 0, 0);
        TheatreWall chain = wallOf(2, 2, 2);
        chain.need(1, 0, true);
        chain.need(2, 1, true);
        due("only those that need it directly", 1, () -> chain.remove(0));
        begins("the row goes on without it", chain, 0, 2);

        said("Throws `IndexOutOfBoundsException` if there is no such task");
        refused("remove from an empty wall", INDEX, TheatreWall::new, w -> w.remove(0));
        for (int task : outside(0, 4)) {
            refused("remove " + task, INDEX, BUSY, w -> w.remove(task));
        }
        for (int task : outside(0, 11)) {
            refused("remove of 12 " + task, INDEX, FULL, w -> w.remove(task));
        }
    }

    private static void needIsSo() {
        said("Returns 1 if it needed it, otherwise 0.");
        int[] others = {0, 10};
        for (int other : others) {
            TheatreWall wall = wallOf(1, 1, 1, 1, 1, 1, 1, 1, 1, 1, 1, 1);
            due("not so, stays so", 0, () -> wall.need(11, other, false));
            due("nothing", 0, () -> wall.task(11, 4));
            due("not so, becomes so", 0, () -> wall.need(11, other, true));
            due("it", 1 << other, () -> wall.task(11, 4));
            due("so, stays so", 1, () -> wall.need(11, other, true));
            due("it still", 1 << other, () -> wall.task(11, 4));
            due("so, becomes not so", 1, () -> wall.need(11, other, false));
            due("nothing again", 0, () -> wall.task(11, 4));
        }
        TheatreWall wall = wallOf(2, 3);
        due("the one just ahead", 0, () -> wall.need(1, 0, true));
        begins("behind it", wall, 0, 2);
        due("no more", 1, () -> wall.need(1, 0, false));
        begins("with it", wall, 0, 0);
    }

    private static void needRefused() {
        said("Throws `IndexOutOfBoundsException` if there is no such task");
        for (boolean isSo : new boolean[] {true, false}) {
            refused("need on an empty wall", INDEX, TheatreWall::new, w -> w.need(0, 0, isSo));
            for (int task : outside(0, 4)) {
                refused("need of " + task, INDEX, BUSY, w -> w.need(task, 0, isSo));
                refused("need of and for " + task, INDEX, BUSY, w -> w.need(task, task, isSo));
                refused("need for " + task, INDEX, BUSY, w -> w.need(4, task, isSo));
            }
            said("Throws `IllegalArgumentException` if other is not less than task");
            for (int task = 0; task < 5; task++) {
                for (int other = task; other < 5; other++) {
                    int number = task;
                    int higher = other;
                    refused("need of " + task + " for " + other, ARGUMENT, BUSY, w -> w.need(number, higher, isSo));
                }
            }
        }
    }

    private static void changeInRange() {
        said("Returns the previous value.");
        int[] least = {1, NONE, NONE, 0};
        int[] most = {9, 5, 3, 60};
        int[] before = {7, 4, 2, 0};
        for (int what = 0; what < 4; what++) {
            int number = what;
            TheatreWall wall = wallWith(4, 2, 7, 7);
            due("to the least", before[what], () -> wall.change(1, number, least[number]));
            due("the least", least[what], () -> wall.task(1, number));
            due("to the most", least[what], () -> wall.change(1, number, most[number]));
            due("the most", most[what], () -> wall.task(1, number));
            due("to the same", most[what], () -> wall.change(1, number, most[number]));
            due("the same", most[what], () -> wall.task(1, number));
            for (int other = 0; other < 4; other++) {
                int property = other;
                due("the first is as it was", before[other], () -> wall.task(0, property));
                due("so is the rest", other == what ? most[other] : before[other], () -> wall.task(1, property));
            }
        }
        TheatreWall wall = wallWith(4, 2, 7, 7);
        begins("one behind the other", wall, 0, 7);
        wall.change(1, 1, NONE);
        begins("the hall holds them apart", wall, 0, 7);
        wall.change(0, 2, NONE);
        begins("nothing holds them apart", wall, 0, 0);
    }

    private static void changeRefused() {
        said("Throws `IndexOutOfBoundsException` if there is no such task");
        for (int what = 0; what < 4; what++) {
            int number = what;
            refused("change on an empty wall", INDEX, TheatreWall::new, w -> w.change(0, number, 1));
            for (int task : outside(0, 4)) {
                refused("change of " + task, INDEX, BUSY, w -> w.change(task, number, 1));
            }
        }
        said("Throws `IllegalArgumentException` if what or value is out of range");
        int[] least = {1, NONE, NONE, 0};
        int[] most = {9, 5, 3, 60};
        for (int what = 0; what < 4; what++) {
            int number = what;
            for (int value : outside(least[what], most[what])) {
                refused("change " + what + " to " + value, ARGUMENT, BUSY, w -> w.change(4, number, value));
            }
        }
        for (int what : outside(0, 3)) {
            refused("change what " + what, ARGUMENT, BUSY, w -> w.change(0, what, 1));
        }
    }

    private static void slip() {
        said("its earliest day becomes the day on which it begins now, and some days more.");
        TheatreWall wall = queueOf(2, 3);
        wall.change(1, 3, 1);
        begins("it begins later than its earliest day", wall, 0, 2);
        due("by one day", 1, () -> wall.slip(1, 1));
        due("from its begin on", 3, () -> wall.task(1, 3));
        begins("there it begins", wall, 0, 3);
        due("by 20 days", 20, () -> wall.slip(1, 20));
        due("from its begin on again", 23, () -> wall.task(1, 3));

        said("Returns by how many days the end of the plan becomes later (below 0 if it becomes earlier).");
        TheatreWall none = wallOf(1, 2);
        due("no later", 0, () -> none.slip(0, 1));
        due("later", 1, () -> none.slip(0, 1));
        TheatreWall alone = hallOf(9);
        alone.borrow(0, 0, 9);
        due("up to the last day", 1, () -> alone.slip(0, 1));
        due("it is stuck, no end at all", -10, () -> alone.slip(0, 1));
        due("no plan", 0, () -> alone.count(3));
        TheatreWall change = hallOf(2, 1);
        change.borrow(0, 0, 1);
        due("another one instead ends earlier", -1, () -> change.slip(0, 20));
        begins("the other one", change, NONE, 0);
        TheatreWall far = wallOf(1, 9);
        far.change(0, 3, 40);
        due("to day 60", 20, () -> far.slip(0, 20));
        due("day 60", 60, () -> far.task(0, 6));
    }

    private static void slipRefused() {
        said("Throws `IndexOutOfBoundsException` if there is no such task");
        refused("slip on an empty wall", INDEX, TheatreWall::new, w -> w.slip(0, 1));
        for (int task : outside(0, 4)) {
            refused("slip of " + task, INDEX, BUSY, w -> w.slip(task, 1));
        }
        said("Throws `IllegalArgumentException` if days is out of range");
        for (int days : outside(1, 20)) {
            refused("slip by " + days, ARGUMENT, BUSY, w -> w.slip(0, days));
            refused("slip of a stuck one by " + days, ARGUMENT, BUSY, w -> w.slip(4, days));
            refused("slip of a late one by " + days, ARGUMENT, BUSY, w -> w.slip(1, days));
        }
        said("Throws `IllegalStateException` if the task is not laid, or its earliest day would be above 60");
        refused("slip of a stuck one", STATE, BUSY, w -> w.slip(4, 1));
        refused("slip of one that follows a stuck one", STATE, () -> {
            TheatreWall wall = hallOf(2);
            wall.add(1, NONE, NONE);
            wall.need(1, 0, true);
            wall.borrow(0, 0, 0);
            return wall;
        }, w -> w.slip(1, 1));
        for (int days = 1; days <= 20; days++) {
            int number = days;
            TheatreWall just = wallOf(1);
            just.change(0, 3, 60 - days);
            due("to 60 by " + days, days, () -> just.slip(0, number));
            due("it is 60", 60, () -> just.task(0, 3));
            refused("to 61 by " + days, STATE, () -> {
                TheatreWall wall = wallOf(1);
                wall.change(0, 3, 61 - number);
                return wall;
            }, w -> w.slip(0, number));
        }
        refused("it begins behind day 60 already", STATE, () -> {
            TheatreWall wall = queueOf(9, 9);
            wall.change(0, 3, 60);
            wall.change(1, 3, 60);
            return wall;
        }, w -> w.slip(1, 1));
    }

    private static void borrow() {
        said("Returns how many tasks are laid then.");
        TheatreWall wall = hallOf(1, 2, 3);
        wall.add(1, 0, 1);
        due("for all days", 4, () -> wall.borrow(0, 0, 99));
        due("for just enough days", 4, () -> wall.borrow(0, 94, 99));
        due("for a day less", 3, () -> wall.borrow(0, 95, 99));
        due("for the last day", 2, () -> wall.borrow(0, 99, 99));
        due("for the first day", 2, () -> wall.borrow(0, 0, 0));
        due("the other hall for one day too", 2, () -> wall.borrow(1, 99, 99));
        due("the last hall, in which is none", 2, () -> wall.borrow(3, 99, 99));
        begins("laid in the halls' days", wall, 0, NONE, NONE, 99);
        TheatreWall none = new TheatreWall();
        due("no tasks", 0, () -> none.borrow(0, 5, 5));
        due("the first day", 5, () -> none.hall(0, 0));
        due("the last day", 5, () -> none.hall(0, 1));
    }

    private static void borrowRefused() {
        said("Throws `IndexOutOfBoundsException` if there is no such hall");
        for (int hall : outside(0, 3)) {
            refused("borrow hall " + hall, INDEX, BUSY, w -> w.borrow(hall, 0, 99));
        }
        said("Throws `IllegalArgumentException` if a day is out of range");
        for (int day : outside(0, 99)) {
            refused("borrow from " + day, ARGUMENT, BUSY, w -> w.borrow(0, day, 99));
            refused("borrow to " + day, ARGUMENT, BUSY, w -> w.borrow(3, 0, day));
            refused("borrow from and to " + day, ARGUMENT, BUSY, w -> w.borrow(0, day, day));
        }
        said("`last`: first to 99");
        for (int first : new int[] {1, 2, 50, 99}) {
            refused("borrow backwards from " + first, ARGUMENT, BUSY, w -> w.borrow(0, first, first - 1));
            refused("borrow backwards to 0 from " + first, ARGUMENT, BUSY, w -> w.borrow(0, first, 0));
            due("borrow for one day", first, () -> {
                TheatreWall wall = busy();
                wall.borrow(0, first, first);
                return wall.hall(0, 1);
            });
        }
    }

    private static void rule() {
        said("Changes the rule.");
        TheatreWall wall = new TheatreWall();
        int[] rules = {3, 3, 0, 1, 2, 0, 0};
        int before = 0;
        for (int rule : rules) {
            due("the previous one", before, () -> wall.rule(rule));
            due("the new one", rule, wall::setting);
            before = rule;
        }
        said("Throws `IllegalArgumentException` if rule is out of range");
        for (int rule : outside(0, 3)) {
            refused("rule " + rule, ARGUMENT, BUSY, w -> w.rule(rule));
        }
    }

    private static void firstNamed() {
        said("If several exceptions apply, the one that is named first in the throws clause is thrown.");
        refused("add, out of range and no room", ARGUMENT, FULL, w -> w.add(0, NONE, NONE));
        refused("need, no such other task, and not less", INDEX, BUSY, w -> w.need(4, 5, true));
        refused("need, no such task, and not less", INDEX, BUSY, w -> w.need(-1, 4, true));
        refused("change, no such task, what and value", INDEX, BUSY, w -> w.change(5, 4, 61));
        refused("slip, no such task and days", INDEX, BUSY, w -> w.slip(5, 0));
        refused("slip, days and not laid", ARGUMENT, BUSY, w -> w.slip(4, 21));
        refused("slip, days and above 60", ARGUMENT, BUSY, w -> w.slip(1, 0));
        refused("borrow, no such hall and days", INDEX, BUSY, w -> w.borrow(4, 100, -1));
        refused("append, code and full", ARGUMENT, () -> {
            TheatreWall wall = new TheatreWall();
            type(wall, "d".repeat(60));
            return wall;
        }, w -> w.append(127));
    }
}
