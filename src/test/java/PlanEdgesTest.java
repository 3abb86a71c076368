/** The boundary cases that the document's Terms name for tasks, halls and the plan, sentence by sentence. */
public final class PlanEdgesTest extends Checks {
    private static final int HOLDS_512 = 512;

    private PlanEdgesTest() {
    }

    public static void main(String[] args) {
        calls();
        days();
        tasks();
        numbersBehindRemoved();
        partsOfTasks();
        halls();
        layingStops();
        layingByRules();
        earliestDays();
        persons();
        hallsShared();
        hallsBorrowed();
        lastDay();
        stuck();
        endOfPlan();
        slackUpTo30();
        slackAndLaidTasks();
        slackAndEnd();
        slackWithGaps();
        critical();
        settings();
        end("PlanEdgesTest");
    }

    private static void calls() {
        said("An object is used for at most 512 calls after it has been made");
        TheatreWall wall = wallOf(1);
        TheatreWall twin = wallOf(1);
        for (int call = 2; call < HOLDS_512; call++) {
            wall.change(0, 3, call % 61);
            if (call >= HOLDS_512 - 6) {
                twin.change(0, 3, call % 61);
            }
        }
        same("the 512th call", twin.digest(), wall.digest());

        TheatreWall refusing = new TheatreWall();
        for (int call = 1; call < HOLDS_512; call++) {
            outcome(refusing::undo);
        }
        due("the 512th call, behind refused ones", 0, () -> refusing.add(1, 0, 0));

        TheatreWall typing = new TheatreWall();
        for (int call = 1; call < HOLDS_512; call++) {
            outcome(() -> typing.append('d'));
        }
        due("the 512th call, behind a full buffer", 60, typing::clearBuffer);
    }

    private static void days() {
        said("Days are numbered from 0 to 99.");
        TheatreWall full = wallWith(5, 3, 9, 9, 9, 9, 9, 9, 9, 9, 9, 9, 9, 1);
        due("on day 0", 0, () -> full.personOn(5, 0));
        due("on day 98", 10, () -> full.personOn(5, 98));
        due("on day 99", 11, () -> full.personOn(5, 99));
        due("in the hall on day 0", 0, () -> full.hallOn(3, 0));
        due("in the hall on day 98", 10, () -> full.hallOn(3, 98));
        due("in the hall on day 99", 11, () -> full.hallOn(3, 99));
        due("all days", 100, () -> full.hall(3, 2));
        due("all are laid", 12, () -> full.count(1));
    }

    private static void tasks() {
        said("There are at most 12 tasks, numbered from 0");
        TheatreWall wall = new TheatreWall();
        for (int task = 0; task < 12; task++) {
            int number = task;
            fails("not there yet, " + number, INDEX, wall, () -> wall.task(number, 0));
            due("its number", number, () -> wall.add(1, NONE, NONE));
            due("there it is", 1, () -> wall.task(number, 0));
        }
        fails("a 13th", STATE, wall, () -> wall.add(1, NONE, NONE));
        fails("number 12", INDEX, wall, () -> wall.task(12, 0));
        wall.remove(0);
        due("room again", 11, () -> wall.add(9, NONE, NONE));
        fails("and full again", STATE, wall, () -> wall.add(1, NONE, NONE));
        due("all of them are laid", 12, () -> wall.count(1));
    }

    private static void numbersBehindRemoved() {
        said("(if one is removed, those behind it have numbers that are less by 1)");
        TheatreWall first = queueOf(1, 2, 3, 4);
        first.need(2, 0, true);
        first.need(2, 1, true);
        first.need(3, 2, true);
        first.change(3, 2, 3);
        first.change(2, 3, 2);
        first.remove(0);
        properties("lengths behind the first", first, 0, 2, 3, 4);
        properties("needs behind the first", first, 4, 0, 0b1, 0b10);
        properties("halls behind the first", first, 2, NONE, NONE, 3);
        properties("earliest days behind the first", first, 3, 0, 2, 0);
        due("its number in the plan", 2, () -> first.personOn(0, 5));
        due("its number in the hall", 2, () -> first.hallOn(3, 5));
        refused("the last number is free", INDEX, () -> removed(0), w -> w.task(2, 0));

        TheatreWall between = new TheatreWall();
        for (int task = 0; task < 6; task++) {
            between.add(1 + task, task, NONE);
        }
        between.need(5, 0, true);
        between.need(5, 1, true);
        between.need(5, 2, true);
        between.need(5, 4, true);
        between.remove(2);
        properties("persons behind the third", between, 1, 0, 1, 3, 4, 5);
        properties("lengths behind the third", between, 0, 1, 2, 4, 5, 6);
        properties("needs below and above the third", between, 4, 0, 0, 0, 0, 0b1011);
        TheatreWall middle = removed(1);
        properties("lengths behind the second", middle, 0, 1, 3);
        properties("needs behind the second", middle, 4, 0, 0b1);
        TheatreWall last = removed(2);
        properties("lengths ahead of the last", last, 0, 1, 2);
        properties("needs ahead of the last", last, 4, 0, 0b1);
        TheatreWall only = wallOf(5);
        due("remove the only one", 0, () -> only.remove(0));
        due("none is left", 0, () -> only.count(0));
        due("nor its plan", 0, () -> only.count(3));
        fails("nor its number", INDEX, only, () -> only.remove(0));
    }

    /** Of three tasks, each of which needs all that are ahead of it, one is removed. */
    private static TheatreWall removed(int task) {
        TheatreWall wall = wallOf(1, 2, 3);
        wall.need(1, 0, true);
        wall.need(2, 0, true);
        wall.need(2, 1, true);
        wall.remove(task);
        return wall;
    }

    private static void partsOfTasks() {
        said("A task has a length, 1 to 9 days; a person, 0 to 5, or none; a hall, 0 to 3, or none; "
            + "an earliest day, 0 to 60; and tasks that it needs, with lower numbers than its own.");
        TheatreWall wall = new TheatreWall();
        wall.add(1, 0, 0);
        wall.add(9, 5, 3);
        wall.add(1, NONE, NONE);
        wall.change(1, 3, 60);
        properties("lengths", wall, 0, 1, 9, 1);
        properties("persons", wall, 1, 0, 5, NONE);
        properties("halls", wall, 2, 0, 3, NONE);
        properties("earliest days", wall, 3, 0, 60, 0);
        due("on its only day", 0, () -> wall.personOn(0, 0));
        due("not on the day behind", NONE, () -> wall.personOn(0, 1));
        due("not on the day ahead of its first", NONE, () -> wall.personOn(5, 59));
        due("on the first of nine days", 1, () -> wall.personOn(5, 60));
        due("on the last of nine days", 1, () -> wall.personOn(5, 68));
        due("not on a tenth", NONE, () -> wall.personOn(5, 69));

        TheatreWall all = wallOf(1, 1, 1, 1, 1, 1, 1, 1, 1, 1, 1, 1);
        for (int other = 0; other < 11; other++) {
            all.need(11, other, true);
        }
        due("it needs all lower ones", 0b11111111111, () -> all.task(11, 4));
        due("it is behind them", 1, () -> all.task(11, 6));
        fails("not itself", ARGUMENT, all, () -> all.need(11, 11, true));
        fails("nor a higher one", ARGUMENT, all, () -> all.need(10, 11, true));
    }

    private static void halls() {
        said("Each hall is borrowed for a row of days, from a first to a last one, at first 0 to 99.");
        TheatreWall wall = new TheatreWall();
        for (int hall = 0; hall < 4; hall++) {
            int number = hall;
            due("first day at first", 0, () -> wall.hall(number, 0));
            due("last day at first", 99, () -> wall.hall(number, 1));
            wall.borrow(number, hall, 99 - hall);
        }
        for (int hall = 0; hall < 4; hall++) {
            int number = hall;
            due("first day then", number, () -> wall.hall(number, 0));
            due("last day then", 99 - number, () -> wall.hall(number, 1));
        }
    }

    private static void layingStops() {
        said("The plan is laid by a rule, as long as there are tasks that are not laid, "
            + "and need only tasks that are laid: of these the first one by the rule is laid.");
        for (int rule = 0; rule < 4; rule++) {
            TheatreWall empty = new TheatreWall();
            empty.rule(rule);
            due("no task by rule " + rule, 0, () -> empty.count(1));
            TheatreWall chain = wallOf(1, 2, 3, 4, 5, 6, 7, 8, 9, 9, 9, 9);
            for (int task = 1; task < 12; task++) {
                chain.need(task, task - 1, true);
            }
            chain.rule(rule);
            begins("each behind the one ahead by rule " + rule, chain, 0, 1, 3, 6, 10, 15, 21, 28, 36, 45, 54, 63);
            TheatreWall none = hallOf(2, 2, 2);
            none.borrow(0, 7, 7);
            none.rule(rule);
            begins("none by rule " + rule, none, NONE, NONE, NONE);
            TheatreWall some = hallOf(2, 1, 1);
            some.need(1, 0, true);
            some.borrow(0, 7, 7);
            some.rule(rule);
            begins("those that are not ready are left by rule " + rule, some, NONE, NONE, 7);
        }
        TheatreWall ready = queueOf(1, 2, 9);
        ready.need(2, 0, true);
        ready.rule(1);
        begins("the longest is not ready yet", ready, 2, 0, 3);
    }

    private static void layingByRules() {
        said("By the rule 0 this is the lowest one, by 1 the one with the greatest length, "
            + "by 2 the one that most tasks follow (directly), by 3 the one with the latest earliest day; "
            + "of several always the lowest one.");
        TheatreWall lengths = queueOf(3, 5, 5, 3);
        begins("the lowest", lengths, 0, 3, 8, 13);
        lengths.rule(1);
        begins("the lowest of the longest", lengths, 10, 0, 5, 13);
        TheatreWall apart = queueOf(1, 9);
        apart.rule(1);
        begins("9 ahead of 1", apart, 9, 0);

        TheatreWall followed = queueOf(1, 1, 1, 1, 1);
        followed.need(2, 0, true);
        followed.need(3, 1, true);
        followed.need(3, 2, true);
        followed.need(4, 1, true);
        followed.rule(2);
        begins("only who follows directly counts", followed, 1, 0, 2, 3, 4);
        TheatreWall equal = queueOf(2, 1, 2, 1);
        equal.need(2, 0, true);
        equal.need(3, 1, true);
        equal.rule(2);
        begins("the lowest of those with as many followers", equal, 0, 2, 3, 5);
        TheatreWall none = queueOf(1, 2, 3);
        none.rule(2);
        begins("the lowest, where none follows", none, 0, 1, 3);
        TheatreWall most = queueOf(1, 1, 1, 1, 1, 1, 1, 1, 1, 1, 1, 1);
        for (int task = 2; task < 12; task++) {
            most.need(task, 1, true);
        }
        most.rule(2);
        begins("whom ten follow", most, 1, 0, 2, 3);

        TheatreWall late = queueOf(2, 2, 2);
        late.change(1, 3, 3);
        late.change(2, 3, 3);
        late.rule(3);
        begins("the lowest of the latest", late, 0, 3, 5);
        TheatreWall latest = queueOf(2, 2, 2);
        latest.change(1, 3, 59);
        latest.change(2, 3, 60);
        latest.rule(3);
        begins("60 ahead of 59", latest, 0, 62, 60);
        TheatreWall early = queueOf(9, 1);
        early.change(1, 3, 1);
        early.rule(3);
        begins("1 ahead of 0", early, 2, 1);
    }

    private static void earliestDays() {
        said("It begins on the first day that is not ahead of its earliest day, "
            + "nor of the day behind the last day of any task that it needs");
        TheatreWall wall = wallOf(3, 5, 1);
        wall.need(2, 0, true);
        begins("behind the first", wall, 0, 0, 3);
        wall.need(2, 1, true);
        begins("behind both", wall, 0, 0, 5);
        wall.need(2, 0, false);
        begins("behind the second", wall, 0, 0, 5);
        int[][] due = {{0, 5}, {4, 5}, {5, 5}, {6, 6}, {60, 60}};
        for (int[] pair : due) {
            wall.change(2, 3, pair[0]);
            begins("with the earliest day " + pair[0], wall, 0, 0, pair[1]);
        }
        TheatreWall behindLate = wallOf(9, 1);
        behindLate.need(1, 0, true);
        behindLate.change(0, 3, 60);
        begins("behind one that begins on 60", behindLate, 60, 69);
    }

    private static void persons() {
        said("so that on all its days no task that is laid has its person");
        for (int length = 1; length <= 3; length++) {
            TheatreWall wall = queueOf(3, 1);
            wall.change(1, 3, 5);
            wall.add(length, 0, NONE);
            begins("two days between, length " + length, wall, 0, 5, length <= 2 ? 3 : 6);
            wall.change(2, 1, 1);
            begins("another person, length " + length, wall, 0, 5, 0);
            wall.change(2, 1, NONE);
            begins("no person, length " + length, wall, 0, 5, 0);
        }
        TheatreWall none = wallOf(4, 5, 6);
        begins("none has none's person", none, 0, 0, 0);
        TheatreWall ahead = queueOf(2, 3);
        ahead.change(0, 3, 3);
        begins("up to the day ahead of it", ahead, 3, 0);
        ahead.change(0, 3, 2);
        begins("a day too few", ahead, 2, 4);
        TheatreWall twelve = queueOf(1, 1, 1, 1, 1, 1, 1, 1, 1, 1, 1, 9);
        for (int task = 0; task < 11; task++) {
            twelve.change(task, 3, 5 * task + 1);
        }
        due("it passes all the eleven others", 52, () -> twelve.task(11, 6));
    }

    private static void hallsShared() {
        said("no task that is laid has its person, none its hall");
        for (int length = 1; length <= 3; length++) {
            TheatreWall wall = hallOf(3, 1);
            wall.change(1, 3, 5);
            wall.add(length, NONE, 0);
            begins("two days between, length " + length, wall, 0, 5, length <= 2 ? 3 : 6);
            wall.change(2, 2, 1);
            begins("another hall, length " + length, wall, 0, 5, 0);
            wall.change(2, 2, NONE);
            begins("no hall, length " + length, wall, 0, 5, 0);
        }
        TheatreWall both = new TheatreWall();
        both.add(3, 0, NONE);
        both.add(3, NONE, 0);
        both.change(1, 3, 3);
        both.add(1, 0, 0);
        begins("person and hall must be free on the same day", both, 0, 3, 6);
        TheatreWall gap = new TheatreWall();
        gap.add(2, 0, NONE);
        gap.add(2, NONE, 0);
        gap.change(1, 3, 4);
        gap.add(2, 0, 0);
        begins("the gap that both leave", gap, 0, 4, 2);
        gap.change(2, 0, 3);
        begins("the gap is a day too small", gap, 0, 4, 6);
    }

    private static void hallsBorrowed() {
        said("the hall is borrowed, and the day is 99 at most");
        int[][] due = {{0, 3, 5}, {0, 4, NONE}, {4, 3, 5}, {5, 3, 5}, {6, 2, 6}, {6, 3, NONE}, {7, 1, 7}, {7, 2, NONE},
            {8, 1, NONE}, {60, 1, NONE}};
        for (int[] row : due) {
            TheatreWall wall = hallOf(row[1]);
            wall.change(0, 3, row[0]);
            wall.borrow(0, 5, 7);
            begins("from " + row[0] + ", length " + row[1], wall, row[2]);
            wall.change(0, 2, NONE);
            begins("without a hall, from " + row[0], wall, row[0]);
        }
        TheatreWall one = hallOf(1, 1);
        one.borrow(0, 0, 0);
        begins("borrowed for day 0 alone", one, 0, NONE);
        one.borrow(0, 99, 99);
        begins("borrowed for day 99 alone", one, 99, NONE);
        one.borrow(0, 98, 99);
        begins("borrowed for days 98 and 99", one, 98, 99);
        one.borrow(1, 50, 50);
        begins("another hall is borrowed", one, 98, 99);
        TheatreWall needed = hallOf(1, 2);
        needed.need(1, 0, true);
        needed.borrow(0, 4, 6);
        begins("behind the one that it needs, up to the last day", needed, 4, 5);
        needed.borrow(0, 4, 5);
        begins("a day too few", needed, 4, NONE);
    }

    private static void lastDay() {
        said("and the day is 99 at most");
        TheatreWall one = queueOf(9, 9, 9, 9, 9, 9, 9, 9, 9, 9, 9, 1);
        due("up to day 99", 99, () -> one.task(11, 6));
        one.change(11, 0, 2);
        due("day 100 is too late", NONE, () -> one.task(11, 6));
        TheatreWall needs = wallOf(9, 9, 9, 9, 9, 4);
        needs.change(0, 3, 51);
        for (int task = 1; task < 6; task++) {
            needs.need(task, task - 1, true);
        }
        begins("one behind the other, the last up to 99", needs, 51, 60, 69, 78, 87, 96);
        needs.change(5, 0, 5);
        due("up to 100", NONE, () -> needs.task(5, 6));
        needs.change(5, 0, 4);
        needs.change(0, 3, 52);
        due("a day later", NONE, () -> needs.task(5, 6));
        due("the one ahead of it", 88, () -> needs.task(4, 6));
    }

    private static void stuck() {
        said("If there is no such day, it is stuck: it is not laid, "
            + "and neither are those that follow it, or follow these, and so on.");
        TheatreWall wall = wallOf(2, 1, 1, 1, 1, 1);
        wall.change(0, 2, 0);
        wall.borrow(0, 9, 9);
        wall.need(1, 0, true);
        wall.need(2, 1, true);
        wall.need(3, 2, true);
        wall.need(5, 4, true);
        begins("stuck, and what follows", wall, NONE, NONE, NONE, NONE, 0, 1);
        due("laid", 2, () -> wall.count(1));
        due("not laid", 4, () -> wall.count(2));
        wall.need(5, 3, true);
        begins("it follows one that is laid, and one that is not", wall, NONE, NONE, NONE, NONE, 0, NONE);
        wall.change(0, 0, 1);
        begins("not stuck any more", wall, 9, 10, 11, 12, 0, 13);

        TheatreWall behind = queueOf(3, 2);
        behind.change(1, 2, 1);
        behind.add(1, 0, NONE);
        behind.need(2, 1, true);
        behind.borrow(1, 0, 0);
        begins("those that are laid stay where they are when no more is ready", behind, 0, NONE, NONE);
        due("laid once", 1, () -> behind.count(1));
        due("the end", 3, () -> behind.count(3));

        TheatreWall away = new TheatreWall();
        away.add(3, 0, 0);
        away.borrow(0, 0, 1);
        away.add(2, 0, NONE);
        away.add(2, NONE, 0);
        begins("a stuck one is in nobody's way", away, NONE, 0, 0);
        due("person", 1, () -> away.personOn(0, 0));
        due("hall", 2, () -> away.hallOn(0, 0));
        for (int what = 6; what <= 7; what++) {
            int property = what;
            due("no begin, no slack", NONE, () -> away.task(0, property));
        }
        due("no waiting", 0, () -> away.task(0, 8));
    }

    private static void endOfPlan() {
        said("The end of the plan is the last day of a task that is laid, and 1; 0 without such tasks.");
        TheatreWall empty = new TheatreWall();
        due("no tasks", 0, () -> empty.count(3));
        TheatreWall stuck = hallOf(2, 2);
        stuck.borrow(0, 99, 99);
        due("none is laid", 0, () -> stuck.count(3));
        stuck.add(1, NONE, NONE);
        due("one is laid, on day 0", 1, () -> stuck.count(3));
        stuck.change(0, 0, 1);
        due("up to day 99", 100, () -> stuck.count(3));
        TheatreWall several = wallOf(3, 9, 1);
        due("the latest last day, not that of the last task", 9, () -> several.count(3));
        several.change(2, 3, 8);
        due("on the same last day", 9, () -> several.count(3));
        several.change(2, 3, 9);
        due("a day behind it", 10, () -> several.count(3));
    }

    private static void slackUpTo30() {
        said("The slack of a task that is laid is the greatest number of days, up to 30, "
            + "by which its earliest day could be later than the day on which it begins now");
        TheatreWall wall = wallOf(1, 1);
        int[][] due = {{0, 0}, {1, 1}, {29, 29}, {30, 30}, {31, 30}, {60, 30}};
        for (int[] pair : due) {
            wall.change(1, 3, pair[0]);
            properties("slack with another on day " + pair[0], wall, 7, pair[1], 0);
        }
        TheatreWall late = wallOf(5, 2, 9);
        late.need(1, 0, true);
        properties("by the day on which it begins, not by its earliest day", late, 7, 2, 2, 0);
        late.change(1, 3, 6);
        properties("by its earliest day, on which it begins", late, 7, 2, 1, 0);
        TheatreWall stuck = hallOf(2, 1);
        stuck.need(1, 0, true);
        stuck.borrow(0, 0, 0);
        properties("no slack of those that are not laid", stuck, 7, NONE, NONE);

        said("the earliest day can be above 60 for that");
        TheatreWall beyond = wallOf(9, 9, 9, 9, 4, 9, 1);
        beyond.change(0, 3, 60);
        for (int task = 1; task < 5; task++) {
            beyond.need(task, task - 1, true);
        }
        beyond.change(5, 3, 60);
        beyond.need(6, 2, true);
        begins("a row up to day 99, and two more", beyond, 60, 69, 78, 87, 96, 60, 87);
        properties("from day 60 to 90, from day 87 to 99", beyond, 7, 0, 0, 0, 0, 0, 30, 12);
        beyond.remove(4);
        properties("up to day 95", beyond, 7, 0, 0, 0, 0, 27, 8);
    }

    private static void slackAndLaidTasks() {
        said("so that at least as many tasks are laid as now (the task itself need not be one of them)");
        TheatreWall fewer = hallOf(2);
        fewer.borrow(0, 0, 4);
        fewer.add(9, NONE, NONE);
        due("it must stay laid", 3, () -> fewer.task(0, 7));
        fewer.add(1, NONE, NONE);
        fewer.need(2, 0, true);
        due("and so must what follows", 3, () -> fewer.task(0, 7));

        TheatreWall instead = hallOf(1, 1);
        instead.borrow(0, 0, 0);
        begins("one is laid, one is stuck", instead, 0, NONE);
        properties("the other one is laid instead", instead, 7, 30, NONE);
        due("it is not critical", 0, () -> instead.count(5));
        instead.add(1, NONE, NONE);
        instead.need(2, 0, true);
        properties("but it takes another one with it", instead, 7, 0, NONE, 0);
        due("both are critical", 2, () -> instead.count(5));

        // With 1 or 3 days one more task is laid, with 2 as many as now, with more days one less.
        TheatreWall more = hallOf(1, 2, 2);
        more.change(0, 3, 1);
        more.add(9, NONE, NONE);
        more.add(1, NONE, NONE);
        more.need(4, 0, true);
        more.borrow(0, 0, 4);
        begins("one is stuck", more, 1, 2, NONE, 0, 2);
        due("more tasks are no fewer", 3, () -> more.task(0, 7));
    }

    private static void slackAndEnd() {
        said("and the plan ends not later; 0 if there is no such number.");
        TheatreWall wall = wallOf(2, 9);
        properties("to the same end", wall, 7, 7, 0);
        wall.change(0, 0, 8);
        properties("one day", wall, 7, 1, 0);
        wall.change(0, 0, 9);
        properties("none", wall, 7, 0, 0);
        TheatreWall later = hallOf(1, 2);
        later.borrow(0, 0, 1);
        begins("one is stuck", later, 0, NONE);
        due("another one instead ends later", 0, () -> later.task(0, 7));
        // Ending earlier is not later: the task becomes stuck, and a shorter one is laid instead.
        TheatreWall earlier = hallOf(2, 1);
        earlier.borrow(0, 0, 1);
        begins("one is stuck", earlier, 0, NONE);
        due("another one instead ends earlier", 30, () -> earlier.task(0, 7));
    }

    private static void slackWithGaps() {
        said("(The greatest such number, whether lesser ones do so or not; "
            + "the earliest day can be above 60 for that.)");
        TheatreWall holes = queueOf(2, 5);
        holes.add(2, NONE, NONE);
        holes.change(2, 3, 5);
        begins("one behind the other", holes, 0, 2, 5);
        due("5 days, though not 1 to 4", 5, () -> holes.task(0, 7));
        TheatreWall rule = queueOf(2, 3);
        rule.rule(3);
        properties("by rule 3 it is laid ahead of the other one then", rule, 7, 3, 0);
    }

    private static void critical() {
        said("It is critical if its slack is 0.");
        TheatreWall wall = wallOf(9, 8, 9, 1);
        due("two have none", 2, () -> wall.count(5));
        wall.change(1, 0, 9);
        wall.need(3, 0, true);
        properties("the slacks", wall, 7, 0, 1, 1, 0);
        due("those with one day are not", 2, () -> wall.count(5));
        TheatreWall stuck = hallOf(2);
        stuck.borrow(0, 0, 0);
        due("a stuck one is not", 0, () -> stuck.count(5));
        TheatreWall all = queueOf(1, 1, 1, 1, 1, 1, 1, 1, 1, 1, 1, 1);
        for (int task = 1; task < 12; task++) {
            all.need(task, task - 1, true);
        }
        due("twelve in a row", 12, () -> all.count(5));
    }

    private static void settings() {
        said("0: the rule, 0 to 3, at first 0.");
        TheatreWall wall = new TheatreWall();
        due("at first", 0, wall::setting);
        due("from 0 to 3", 0, () -> wall.rule(3));
        due("the greatest", 3, wall::setting);
        due("from 3 to 0", 3, () -> wall.rule(0));
        due("the least", 0, wall::setting);
    }
}
