/** Long runs of calls, the same ones each time, of TheatreWall and of PlainWall side by side. */
public final class RunsTest extends Checks {
    private static final int RUNS = 40;
    private static final int CALLS = 512;
    private static final int MOST_DIGESTS = 16;

    private final TheatreWall wall = new TheatreWall();
    private final PlainWall plain = new PlainWall();
    private final int run;
    private long seed;

    private RunsTest(int run) {
        this.run = run;
        this.seed = run;
    }

    public static void main(String[] args) {
        for (int run = 0; run < RUNS && isAllRight(); run++) {
            new RunsTest(run).play();
        }
        end("RunsTest");
    }

    private void play() {
        for (int call = 0; call < CALLS && isAllRight(); call++) {
            next(call);
        }
    }

    /** A number below the bound, by a row of numbers that is always the same. */
    private int pick(int bound) {
        seed = seed * 6364136223846793005L + 1442695040888963407L;
        return (int) Math.floorMod(seed >>> 33, (long) bound);
    }

    /** Mostly from least to most, now and then just beside it or far off. */
    private int near(int least, int most) {
        if (pick(40) == 0) {
            int[] odd = {least - 1, most + 1, Integer.MIN_VALUE, Integer.MAX_VALUE};
            return odd[pick(odd.length)];
        }
        return least + pick(most - least + 1);
    }

    private int anyTask() {
        return near(0, Math.max(0, wall.count(0) - 1));
    }

    private void same(String what, Call due, Call got) {
        same("run " + run + ", " + what, outcome(due), outcome(got));
    }

    private void next(int call) {
        String at = "call " + call + ": ";
        int kind = pick(100);
        if (kind < 55) {
            change(at, kind);
        } else if (kind < 62) {
            text(at);
        } else {
            look(at);
        }
        if (call % (CALLS / MOST_DIGESTS) == 0) {
            same(at + "digest", plain::digest, wall::digest);
        }
    }

    private void change(String at, int kind) {
        int task = anyTask();
        if (kind < 14) {
            int length = near(1, 9);
            int person = near(-1, run % 3 == 0 ? 1 : 5);
            int hall = near(-1, run % 4 == 0 ? 0 : 3);
            same(at + "add", () -> plain.add(length, person, hall), () -> wall.add(length, person, hall));
        } else if (kind < 17) {
            same(at + "remove " + task, () -> plain.remove(task), () -> wall.remove(task));
        } else if (kind < 28) {
            int other = pick(4) == 0 ? anyTask() : near(0, Math.max(0, task % 12 - 1));
            boolean isSo = pick(3) != 0;
            same(at + "need " + task + " " + other, () -> plain.need(task, other, isSo),
                () -> wall.need(task, other, isSo));
        } else if (kind < 40) {
            int what = near(0, 3);
            int[] least = {1, -1, -1, 0};
            int[] most = {9, 5, 3, run % 2 == 0 ? 60 : 12};
            int row = Math.floorMod(what, 4);
            int value = near(least[row], most[row]);
            same(at + "change " + task + " " + what + " " + value, () -> plain.change(task, what, value),
                () -> wall.change(task, what, value));
        } else if (kind < 44) {
            int days = near(1, 20);
            same(at + "slip " + task + " " + days, () -> plain.slip(task, days), () -> wall.slip(task, days));
        } else if (kind < 48) {
            int hall = near(0, 3);
            int first = near(0, run % 2 == 0 ? 99 : 9);
            int last = pick(9) == 0 ? near(0, 99) : Math.min(99, first + pick(30));
            same(at + "borrow " + hall + " " + first + " " + last, () -> plain.borrow(hall, first, last),
                () -> wall.borrow(hall, first, last));
        } else if (kind < 51) {
            int rule = near(0, 3);
            same(at + "rule " + rule, () -> plain.rule(rule), () -> wall.rule(rule));
        } else {
            same(at + "undo", plain::undo, wall::undo);
        }
    }

    /** Types one to three parts, most of them right, and sometimes tells the wall to add them. */
    private void text(String at) {
        StringBuilder typed = new StringBuilder();
        for (int parts = 1 + pick(3); parts > 0; parts--) {
            typed.append('d').append((char) ('0' + near(1, 9)));
            typed.append(pick(2) == 0 ? "p" + (char) ('0' + near(0, 5)) : "");
            typed.append(pick(2) == 0 ? "h" + (char) ('0' + near(0, 3)) : "");
            if (pick(3) == 0) {
                typed.append('n');
                for (char letter = 'a'; letter <= 'l'; letter++) {
                    typed.append(pick(8) == 0 ? Character.toString(letter) : "");
                }
            }
            typed.append(parts > 1 || pick(8) == 0 ? ";" : "");
        }
        if (pick(4) == 0) {
            typed.setCharAt(pick(typed.length()), "dphn;0a59l~"
                .charAt(pick(11)));
        }
        for (int i = 0; i < typed.length(); i++) {
            int code = pick(60) == 0 ? near(33, 126) : typed.charAt(i);
            same(at + "append " + code, () -> plain.append(code), () -> wall.append(code));
            same(at + "firstError", plain::firstError, wall::firstError);
        }
        if (pick(4) != 0) {
            same(at + "addAll of " + typed, plain::addAll, wall::addAll);
        }
        if (pick(3) != 0) {
            same(at + "clearBuffer", plain::clearBuffer, wall::clearBuffer);
        }
    }

    private void look(String at) {
        int person = near(0, 5);
        int hall = near(0, 3);
        int day = pick(2) == 0 ? near(0, 99) : near(0, 20);
        int task = anyTask();
        int what = near(0, 8);
        int few = near(0, 3);
        int days = near(1, 20);
        int asked = near(0, 2);
        same(at + "personOn " + person + " " + day, () -> plain.personOn(person, day),
            () -> wall.personOn(person, day));
        same(at + "hallOn " + hall + " " + day, () -> plain.hallOn(hall, day), () -> wall.hallOn(hall, day));
        same(at + "hall " + hall + " " + few, () -> plain.hall(hall, few), () -> wall.hall(hall, few));
        same(at + "task " + task + " " + what, () -> plain.task(task, what), () -> wall.task(task, what));
        same(at + "count " + what, () -> plain.count(what), () -> wall.count(what));
        same(at + "setting", plain::setting, wall::setting);
        same(at + "ifRule " + few + " " + asked, () -> plain.ifRule(few, asked), () -> wall.ifRule(few, asked));
        same(at + "bestRule", plain::bestRule, wall::bestRule);
        same(at + "ifFreed " + person, () -> plain.ifFreed(person), () -> wall.ifFreed(person));
        same(at + "worstSlip " + days, () -> plain.worstSlip(days), () -> wall.worstSlip(days));
        same(at + "busyness", () -> Double.doubleToLongBits(plain.busyness()),
            () -> Double.doubleToLongBits(wall.busyness()));
    }
}
