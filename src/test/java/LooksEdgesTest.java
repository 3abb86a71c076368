import java.math.BigInteger;

/** The boundary cases of promises 14 to 25, the calls that change nothing, sentence by sentence. */
public final class LooksEdgesTest extends Checks {
    private static final Maker BUSY = LooksEdgesTest::busy;

    private LooksEdgesTest() {
    }

    public static void main(String[] args) {
        noSuchTask();
        masksAndFollowers();
        waiting();
        personOn();
        hallOn();
        hall();
        count();
        countOfNotLaid();
        longestRow();
        ifRule();
        bestRule();
        ifFreed();
        worstSlip();
        busyness();
        digestWraps();
        bitsInDigest();
        end("LooksEdgesTest");
    }

    /** Six tasks: one is stuck, one follows it; with six saved states and a text. */
    private static TheatreWall busy() {
        TheatreWall wall = wallWith(5, 3, 3, 2, 4);
        wall.add(2, 0, 0);
        wall.add(1, NONE, NONE);
        wall.add(7, 1, NONE);
        wall.need(1, 0, true);
        wall.need(4, 3, true);
        wall.borrow(0, 9, 9);
        wall.rule(1);
        type(wall, "d1;");
        return wall;
    }

    private static void noSuchTask() {
        said("Throws `IndexOutOfBoundsException` if there is no such task");
        for (int what = 0; what <= 8; what++) {
            int number = what;
            refused("on an empty wall", INDEX, TheatreWall::new, w -> w.task(0, number));
            for (int task : outside(0, 5)) {
                refused("task " + task, INDEX, BUSY, w -> w.task(task, number));
            }
        }
        said("Throws `IllegalArgumentException` if what is not 0 to 8");
        for (int what : outside(0, 8)) {
            refused("task's " + what, ARGUMENT, BUSY, w -> w.task(0, what));
            refused("a stuck task's " + what, ARGUMENT, BUSY, w -> w.task(3, what));
            refused("no task's " + what, INDEX, BUSY, w -> w.task(6, what));
            refused("count " + what, ARGUMENT, BUSY, w -> w.count(what));
        }
    }

    private static void masksAndFollowers() {
        said("4: the tasks that it needs, as a mask; 5: how many tasks follow it (directly)");
        TheatreWall wall = wallOf(1, 1, 1, 1, 1, 1, 1, 1, 1, 1, 1, 1);
        for (int task = 1; task < 12; task++) {
            for (int other = 0; other < task; other++) {
                wall.need(task, other, true);
            }
        }
        for (int task = 0; task < 12; task++) {
            int number = task;
            due("all that are ahead", (1 << number) - 1, () -> wall.task(number, 4));
            due("all that are behind", 11 - number, () -> wall.task(number, 5));
        }
        TheatreWall chain = wallOf(1, 1, 1);
        chain.need(1, 0, true);
        chain.need(2, 1, true);
        properties("those that follow directly alone", chain, 5, 1, 1, 0);
        TheatreWall stuck = hallOf(2);
        stuck.add(1, NONE, NONE);
        stuck.need(1, 0, true);
        stuck.borrow(0, 0, 0);
        properties("also those that are not laid", stuck, 5, 1, 0);
    }

    private static void waiting() {
        said("8: the days for which it waits: the day on which it begins less the greatest of its earliest day "
            + "and the days behind the last days of those that it needs; 0 if it is not laid");
        TheatreWall wall = queueOf(3, 2, 1);
        properties("for the person", wall, 8, 0, 3, 5);
        wall.change(2, 3, 4);
        properties("from its earliest day on", wall, 8, 0, 3, 1);
        wall.need(2, 1, true);
        properties("from the day on behind the one that it needs", wall, 8, 0, 3, 0);
        wall.change(1, 3, 3);
        properties("just when it could", wall, 8, 0, 0, 0);
        TheatreWall several = wallOf(2, 6, 1);
        several.add(8, 0, NONE);
        several.change(2, 1, 0);
        several.need(2, 0, true);
        several.need(2, 1, true);
        properties("for nobody behind the later of two", several, 8, 0, 0, 0, 7);
        TheatreWall two = wallOf(2, 6);
        two.add(8, 0, NONE);
        two.add(1, 0, NONE);
        two.need(3, 0, true);
        two.need(3, 1, true);
        properties("behind the later of two, from day 6 to 8", two, 8, 0, 0, 0, 2);
        TheatreWall hall = hallOf(1, 1);
        hall.borrow(0, 99, 99);
        properties("for the hall's first day; none of a stuck one", hall, 8, 99, 0);
        due("the first one's days alone", 99, () -> hall.count(6));
        TheatreWall stuck = hallOf(2);
        stuck.borrow(0, 5, 5);
        stuck.add(1, NONE, NONE);
        stuck.need(1, 0, true);
        stuck.change(1, 3, 4);
        properties("none are laid", stuck, 8, 0, 0);
    }

    private static void personOn() {
        said("Throws `IndexOutOfBoundsException` if there is no such person or day");
        for (int person : outside(0, 5)) {
            refused("person " + person, INDEX, BUSY, w -> w.personOn(person, 0));
        }
        for (int day : outside(0, 99)) {
            refused("person's day " + day, INDEX, BUSY, w -> w.personOn(5, day));
            refused("no person's day " + day, INDEX, BUSY, w -> w.personOn(6, day));
        }
        said("Returns the task of the plan, NONE if there is none.");
        TheatreWall empty = new TheatreWall();
        TheatreWall wall = wallOf(9);
        wall.add(2, 5, NONE);
        wall.add(3, 0, 0);
        wall.borrow(0, 0, 1);
        wall.change(1, 3, 3);
        int[] due = {NONE, NONE, NONE, 1, 1, NONE};
        for (int day = 0; day < due.length; day++) {
            int number = day;
            due("person 5 on " + day, due[day], () -> wall.personOn(5, number));
            due("person 0, whose task is stuck", NONE, () -> wall.personOn(0, number));
            due("person 4, without a task", NONE, () -> wall.personOn(4, number));
            due("an empty wall", NONE, () -> empty.personOn(0, number));
        }
    }

    private static void hallOn() {
        said("Throws `IndexOutOfBoundsException` if there is no such hall or day");
        for (int hall : outside(0, 3)) {
            refused("hall " + hall, INDEX, BUSY, w -> w.hallOn(hall, 0));
        }
        for (int day : outside(0, 99)) {
            refused("hall's day " + day, INDEX, BUSY, w -> w.hallOn(3, day));
            refused("no hall's day " + day, INDEX, BUSY, w -> w.hallOn(4, day));
        }
        said("Returns the task in a hall on a day.");
        TheatreWall empty = new TheatreWall();
        TheatreWall wall = wallOf(9);
        wall.add(2, NONE, 3);
        wall.add(3, NONE, 0);
        wall.borrow(0, 0, 1);
        wall.borrow(3, 3, 4);
        int[] due = {NONE, NONE, NONE, 1, 1, NONE};
        for (int day = 0; day < due.length; day++) {
            int number = day;
            due("hall 3 on " + day, due[day], () -> wall.hallOn(3, number));
            due("hall 0, whose task is stuck", NONE, () -> wall.hallOn(0, number));
            due("hall 2, without a task", NONE, () -> wall.hallOn(2, number));
            due("an empty wall", NONE, () -> empty.hallOn(0, number));
        }
    }

    private static void hall() {
        said("Throws `IndexOutOfBoundsException` if there is no such hall");
        for (int hall : outside(0, 3)) {
            for (int what = 0; what < 4; what++) {
                int number = what;
                refused("hall " + hall, INDEX, BUSY, w -> w.hall(hall, number));
            }
        }
        said("Throws `IllegalArgumentException` if what is not 0 to 3");
        for (int what : outside(0, 3)) {
            refused("hall's " + what, ARGUMENT, BUSY, w -> w.hall(0, what));
            refused("no hall's " + what, INDEX, BUSY, w -> w.hall(4, what));
        }
        said("2: days on which a task of the plan is there; 3: tasks of the plan that are there");
        TheatreWall wall = hallOf(2, 3, 1);
        wall.add(9, NONE, NONE);
        wall.add(4, NONE, 3);
        wall.borrow(0, 7, 11);
        due("days of two, the third is stuck", 5, () -> wall.hall(0, 2));
        due("two tasks", 2, () -> wall.hall(0, 3));
        due("no days", 0, () -> wall.hall(1, 2));
        due("no tasks", 0, () -> wall.hall(1, 3));
        due("the last hall's days", 4, () -> wall.hall(3, 2));
        due("the last hall's task", 1, () -> wall.hall(3, 3));
        wall.borrow(0, 0, 99);
        due("days of all three", 6, () -> wall.hall(0, 2));
        due("all three", 3, () -> wall.hall(0, 3));
        wall.borrow(0, 99, 99);
        due("one day", 1, () -> wall.hall(0, 2));
        due("the shortest alone", 1, () -> wall.hall(0, 3));
    }

    private static void count() {
        said("0: tasks; 1: those that are laid; 2: those that are stuck or follow such ones; 3: the end of the plan; "
            + "4: the sum of the lengths of all tasks; 5: critical tasks; 6: the sum of the days for which tasks wait; "
            + "7: the greatest sum of lengths of a row of tasks each of which needs the one ahead of it; "
            + "0 without tasks; 8: saved states");
        TheatreWall empty = new TheatreWall();
        TheatreWall stuck = hallOf(9, 9);
        stuck.need(1, 0, true);
        stuck.borrow(0, 0, 7);
        int[] dueStuck = {2, 0, 2, 0, 18, 0, 0, 18, 4};
        TheatreWall full = queueOf(9, 9, 9, 9, 9, 9, 9, 9, 9, 9, 9, 9);
        int[] dueFull = {12, 11, 1, 99, 108, 0, 495, 9, 6};
        for (int what = 0; what <= 8; what++) {
            int number = what;
            due("empty, count " + what, 0, () -> empty.count(number));
            due("stuck, count " + what, dueStuck[what], () -> stuck.count(number));
            due("full, count " + what, dueFull[what], () -> full.count(number));
        }
        // By 27 days three others come ahead of it; by 30 days one from day 63 on is stuck, the twelfth laid instead.
        properties("the slacks", full, 7, 27, 27, 27, 27, 27, 27, 27, 30, 30, 30, 30, NONE);
    }

    private static void countOfNotLaid() {
        said("2: those that are stuck or follow such ones");
        TheatreWall wall = hallOf(2);
        wall.add(1, NONE, NONE);
        wall.add(1, NONE, NONE);
        wall.add(1, NONE, NONE);
        wall.need(1, 0, true);
        wall.need(2, 1, true);
        wall.need(3, 2, true);
        due("none", 0, () -> wall.count(2));
        wall.borrow(0, 0, 0);
        due("a stuck one, one behind it, and so on", 4, () -> wall.count(2));
        wall.need(2, 1, false);
        due("the first two", 2, () -> wall.count(2));
        wall.need(1, 0, false);
        due("the first", 1, () -> wall.count(2));
    }

    private static void longestRow() {
        said("7: the greatest sum of lengths of a row of tasks each of which needs the one ahead of it; "
            + "0 without tasks");
        TheatreWall wall = wallOf(1, 9, 2, 3, 4);
        due("a row of one", 9, () -> wall.count(7));
        wall.need(2, 0, true);
        wall.need(3, 2, true);
        wall.need(4, 3, true);
        due("a row of four, 1, 2, 3 and 4", 10, () -> wall.count(7));
        wall.need(2, 1, true);
        due("a greater way to the third", 18, () -> wall.count(7));
        wall.change(0, 0, 9);
        due("two ways of 9", 18, () -> wall.count(7));
        wall.need(4, 3, false);
        due("a row that does not end with the last", 14, () -> wall.count(7));
        TheatreWall all = wallOf(9, 9, 9, 9, 9, 9, 9, 9, 9, 9, 9, 9);
        for (int task = 1; task < 12; task++) {
            all.need(task, task - 1, true);
        }
        due("all, though the last is stuck", 108, () -> all.count(7));
    }

    private static void ifRule() {
        said("Throws `IllegalArgumentException` if rule or what is out of range");
        for (int rule : outside(0, 3)) {
            refused("rule " + rule, ARGUMENT, BUSY, w -> w.ifRule(rule, 0));
        }
        for (int what : outside(0, 2)) {
            refused("what " + what, ARGUMENT, BUSY, w -> w.ifRule(3, what));
            refused("neither " + what, ARGUMENT, BUSY, w -> w.ifRule(4, what));
        }
        said("0: the end of the plan; 1: tasks that are laid; 2: the sum of the days for which tasks wait");
        TheatreWall empty = new TheatreWall();
        for (int rule = 0; rule < 4; rule++) {
            for (int what = 0; what < 3; what++) {
                int number = rule;
                int property = what;
                due("of an empty wall", 0, () -> empty.ifRule(number, property));
            }
            int number = rule;
            TheatreWall wall = busy();
            TheatreWall then = busy();
            then.rule(rule);
            due("the end by rule " + rule, then.count(3), () -> wall.ifRule(number, 0));
            due("laid by rule " + rule, then.count(1), () -> wall.ifRule(number, 1));
            due("waiting by rule " + rule, then.count(6), () -> wall.ifRule(number, 2));
            due("the rule stays", 1, wall::setting);
        }
    }

    private static void bestRule() {
        said("Returns the rule by which most tasks are laid, of several the one with the earliest end, "
            + "of these the lowest one.");
        for (int rule = 0; rule < 4; rule++) {
            TheatreWall empty = new TheatreWall();
            empty.rule(rule);
            due("an empty wall", 0, empty::bestRule);
            TheatreWall same = wallOf(1, 2, 3);
            same.rule(rule);
            due("all alike", 0, same::bestRule);
        }
        // Rule 1 lays all three: the task of 3 days, then that of 1 day in the day that is left.
        TheatreWall most = hallOf(1, 3);
        most.borrow(0, 0, 3);
        most.change(0, 3, 1);
        due("one more by rule 1", 1, most::bestRule);
        most.add(9, NONE, NONE);
        most.need(2, 1, true);
        due("also with a later end", 1, most::bestRule);
        // Rule 2 alone lays task 1 ahead, on which two wait.
        TheatreWall end = queueOf(3, 2);
        end.add(9, 1, NONE);
        end.add(1, 2, NONE);
        end.need(2, 1, true);
        end.need(3, 1, true);
        due("by rule 0 up to", 14, () -> end.ifRule(0, 0));
        due("by rule 2 up to", 11, () -> end.ifRule(2, 0));
        due("the earliest end", 2, end::bestRule);
        // Rule 3 alone lays task 1 ahead, so that nothing is in its way.
        TheatreWall last = queueOf(4, 4);
        last.change(1, 3, 1);
        last.add(1, 1, NONE);
        last.need(2, 0, true);
        last.add(9, 2, NONE);
        last.need(3, 1, true);
        due("by rule 0 up to", 17, () -> last.ifRule(0, 0));
        due("by rule 3 up to", 14, () -> last.ifRule(3, 0));
        due("the last rule", 3, last::bestRule);
    }

    private static void ifFreed() {
        said("Throws `IndexOutOfBoundsException` if there is no such person");
        for (int person : outside(0, 5)) {
            refused("person " + person, INDEX, BUSY, w -> w.ifFreed(person));
        }
        said("Returns the end of the plan, if no task had this person any more.");
        for (int person = 0; person <= 5; person++) {
            int number = person;
            TheatreWall wall = wallWith(number, NONE, 3, 4, 5);
            for (int other = 0; other <= 5; other++) {
                int freed = other;
                due(freed + " freed, of whom " + number + " has all", freed == number ? 5 : 12,
                    () -> wall.ifFreed(freed));
            }
            due("they still have it", 12, () -> wall.count(3));
            due("an empty wall", 0, () -> new TheatreWall().ifFreed(number));
        }
        TheatreWall stuck = wallWith(0, 0, 2);
        stuck.borrow(0, 0, 0);
        due("a stuck one stays stuck", 0, () -> stuck.ifFreed(0));
        TheatreWall hall = wallWith(0, 1, 2, 3);
        hall.borrow(1, 0, 4);
        due("two share a hall also then", 5, () -> hall.ifFreed(0));
    }

    private static void worstSlip() {
        said("Throws `IllegalArgumentException` if days is out of range");
        for (int days : outside(1, 20)) {
            refused("by " + days, ARGUMENT, BUSY, w -> w.worstSlip(days));
            refused("on an empty wall by " + days, ARGUMENT, TheatreWall::new, w -> w.worstSlip(days));
        }
        said("Returns of the tasks that could slip by so many days the one by which the end of the plan would become "
            + "latest, of several the lowest; NONE if none could.");
        TheatreWall stuck = hallOf(2, 2);
        stuck.borrow(0, 0, 0);
        for (int days = 1; days <= 20; days++) {
            int number = days;
            due("an empty wall", NONE, () -> new TheatreWall().worstSlip(number));
            due("all are stuck", NONE, () -> stuck.worstSlip(number));
            TheatreWall just = wallOf(1, 2, 2);
            due("the lowest of several", 1, () -> just.worstSlip(number));
            just.change(1, 3, 60 - days);
            due("one that slips to 60", 1, () -> just.worstSlip(number));
            just.change(1, 3, 61 - days);
            due("that would slip to 61, so the lowest of the others", 0, () -> just.worstSlip(number));
        }
        TheatreWall late = wallOf(1, 1);
        late.change(0, 3, 60);
        late.change(1, 3, 41);
        due("neither could by 20", NONE, () -> late.worstSlip(20));
        due("one could by 19", 1, () -> late.worstSlip(19));
        TheatreWall earlier = hallOf(5);
        earlier.borrow(0, 0, 4);
        due("also if the end becomes 0", 0, () -> earlier.worstSlip(1));
        due("the plan stays", 5, () -> earlier.count(3));
        earlier.add(5, 0, NONE);
        due("one that ends it later instead", 1, () -> earlier.worstSlip(1));
        TheatreWall begins = queueOf(5, 1);
        begins.add(8, NONE, NONE);
        due("8 and 3 days against 5 and 1 and 3", 2, () -> begins.worstSlip(3));
        begins.change(2, 0, 5);
        due("from the day on which it begins, 5 and 1 and 3 against 5 and 3", 1, () -> begins.worstSlip(3));
    }

    private static void busyness() {
        said("Returns the sum of the lengths of the tasks that are laid, as a double, divided by the end of the plan; "
            + "0.0 if that is 0.");
        same("an empty wall", 0.0, new TheatreWall().busyness());
        TheatreWall stuck = hallOf(2);
        stuck.borrow(0, 0, 0);
        same("none is laid", 0.0, stuck.busyness());
        stuck.add(1, NONE, NONE);
        same("one is laid", 1.0, stuck.busyness());
        TheatreWall most = wallOf(9, 9, 9, 9, 9, 9, 9, 9, 9, 9, 9, 9);
        same("the most", 12.0, most.busyness());
        TheatreWall least = hallOf(1);
        least.borrow(0, 99, 99);
        same("the least", 0.01, least.busyness());
        TheatreWall third = wallOf(1);
        third.change(0, 3, 2);
        same("not a whole number", 1.0 / 3.0, third.busyness());
    }

    /** The hash in numbers without an end, of which the last 64 bits are taken at the end alone. */
    private static BigInteger with(BigInteger hash, long value) {
        return hash.multiply(BigInteger.valueOf(31)).add(BigInteger.valueOf(value));
    }

    private static long digestOf(TheatreWall wall, String text) {
        BigInteger hash = BigInteger.valueOf(2791);
        for (int what = 0; what <= 8; what++) {
            hash = with(hash, wall.count(what));
        }
        hash = with(hash, wall.setting());
        for (int i = 0; i < 9 * wall.count(0); i++) {
            hash = with(hash, wall.task(i / 9, i % 9));
        }
        for (int i = 0; i < 16; i++) {
            hash = with(hash, wall.hall(i / 4, i % 4));
        }
        for (int person = 0; person <= 5; person++) {
            for (int day = 0; day <= 9; day++) {
                hash = with(hash, wall.personOn(person, day));
            }
            hash = with(hash, wall.ifFreed(person));
        }
        for (int i = 0; i < 12; i++) {
            hash = with(hash, wall.ifRule(i / 3, i % 3));
        }
        hash = with(with(hash, wall.bestRule()), wall.worstSlip(3));
        hash = with(with(hash, Double.doubleToLongBits(wall.busyness())), text.length());
        for (char c : text.toCharArray()) {
            hash = with(hash, c);
        }
        return hash.longValue();
    }

    private static void digestWraps() {
        said("For each value v of the following list, in order, the hash becomes 31 * hash + v, "
            + "in long arithmetic with overflow.");
        TheatreWall empty = new TheatreWall();
        due("an empty wall", digestOf(empty, ""), empty::digest);
        empty.append('!');
        due("a text of one character", digestOf(empty, "!"), empty::digest);
        TheatreWall wall = busy();
        due("a wall with stuck tasks", digestOf(wall, "d1;"), wall::digest);
        wall.clearBuffer();
        due("without a text", digestOf(wall, ""), wall::digest);
        String longest = "~".repeat(59) + "!";
        type(wall, longest);
        due("with a full buffer", digestOf(wall, longest), wall::digest);
        TheatreWall full = queueOf(9, 8, 7, 6, 5, 4, 3, 2, 1, 9, 8, 7);
        full.rule(3);
        due("a full wall", digestOf(full, ""), full::digest);
        TheatreWall days = queueOf(9, 1, 1);
        due("day 9 counts", digestOf(days, ""), days::digest);

        said("bestRule; worstSlip of 3;");
        TheatreWall best = queueOf(3, 2);
        best.add(9, 1, NONE);
        best.need(2, 1, true);
        due("the best rule is 2", 2, best::bestRule);
        due("with a best rule", digestOf(best, ""), best::digest);
        TheatreWall hall = hallOf(5);
        hall.borrow(0, 0, 6);
        hall.add(4, NONE, NONE);
        due("by 2 days the first is laid", 0, () -> hall.worstSlip(2));
        due("by 3 days it is stuck", 1, () -> hall.worstSlip(3));
        due("not the worst slip of 2", digestOf(hall, ""), hall::digest);
        TheatreWall late = wallOf(1, 1);
        late.change(1, 3, 57);
        due("by 3 days the last could", 1, () -> late.worstSlip(3));
        due("by 4 days it could not", 0, () -> late.worstSlip(4));
        due("not the worst slip of 4", digestOf(late, ""), late::digest);
    }

    private static void bitsInDigest() {
        said("the bits of busyness (as Double.doubleToLongBits)");
        for (int length = 1; length <= 9; length++) {
            for (int day = 0; day < 100 && day + length <= 100; day += 9) {
                TheatreWall wall = hallOf(length);
                wall.borrow(0, day, 99);
                due("length " + length + " on " + day, digestOf(wall, ""), wall::digest);
            }
        }
        for (int tasks = 1; tasks <= 12; tasks++) {
            TheatreWall wall = new TheatreWall();
            for (int task = 0; task < tasks; task++) {
                wall.add(9 - task % 2, NONE, NONE);
            }
            due("above 1, " + tasks + " tasks", digestOf(wall, ""), wall::digest);
        }
    }
}
