import java.util.ArrayDeque;
import java.util.ArrayList;
import java.util.Deque;
import java.util.List;
import java.util.regex.Matcher;
import java.util.regex.Pattern;
import java.util.stream.IntStream;

/**
 * The document once more, in the slowest and plainest way and with the whole Java library, day by day:
 * what TheatreWall answers is compared with it. It shares no code and no way of reckoning with that class.
 */
final class PlainWall {
    private static final Pattern TEXT = Pattern.compile(
        "PART(;PART)*".replace("PART", "d[1-9](p[0-5])?(h[0-3])?(n(?=[a-l])a?b?c?d?e?f?g?h?i?j?k?l?)?"));

    private static final class Task {
        int length;
        int person = -1;
        int hall = -1;
        int earliest = 0;
        List<Task> needed = new ArrayList<>();
    }

    private static final class Wall {
        List<Task> tasks = new ArrayList<>();
        int[] from = {0, 0, 0, 0};
        int[] to = {99, 99, 99, 99};
        int rule = 0;

        Wall copy() {
            Wall copy = new Wall();
            for (Task task : tasks) {
                Task twin = new Task();
                twin.length = task.length;
                twin.person = task.person;
                twin.hall = task.hall;
                twin.earliest = task.earliest;
                for (Task other : task.needed) {
                    twin.needed.add(copy.tasks.get(tasks.indexOf(other)));
                }
                copy.tasks.add(twin);
            }
            copy.from = from.clone();
            copy.to = to.clone();
            copy.rule = rule;
            return copy;
        }

        long followers(Task task) {
            return tasks.stream().filter(t -> t.needed.contains(task)).count();
        }
    }

    /** begin[task], or -1, of a wall; laid day by day. */
    private static final class Laid {
        final Wall wall;
        final int[] begin;

        Laid(Wall wall) {
            this.wall = wall;
            begin = new int[wall.tasks.size()];
            java.util.Arrays.fill(begin, -1);
            List<Task> waiting = new ArrayList<>(wall.tasks);
            while (true) {
                Task next = null;
                for (Task task : waiting) {
                    if (task.needed.stream().allMatch(this::isLaid) && (next == null || key(task) > key(next))) {
                        next = task;
                    }
                }
                if (next == null) {
                    return;
                }
                waiting.remove(next);
                for (int day = start(next); day <= 99; day++) {
                    if (fits(next, day)) {
                        begin[wall.tasks.indexOf(next)] = day;
                        break;
                    }
                }
            }
        }

        boolean isLaid(Task task) {
            return beginOf(task) >= 0;
        }

        int beginOf(Task task) {
            return begin[wall.tasks.indexOf(task)];
        }

        long key(Task task) {
            return new long[] {0, task.length, wall.followers(task), task.earliest}[wall.rule];
        }

        int start(Task task) {
            return task.needed.stream().mapToInt(t -> beginOf(t) + t.length).reduce(task.earliest, Math::max);
        }

        boolean fits(Task task, int begin) {
            for (int day = begin; day < begin + task.length; day++) {
                boolean isClosed = task.hall >= 0 && (day < wall.from[task.hall] || day > wall.to[task.hall]);
                if (day > 99 || isClosed || (task.person >= 0 && personOn(task.person, day) >= 0)
                    || (task.hall >= 0 && hallOn(task.hall, day) >= 0)) {
                    return false;
                }
            }
            return true;
        }

        boolean isOn(Task task, int day) {
            return isLaid(task) && beginOf(task) <= day && day <= beginOf(task) + task.length - 1;
        }

        int personOn(int person, int day) {
            return IntStream.range(0, begin.length).filter(i -> wall.tasks.get(i).person == person
                && isOn(wall.tasks.get(i), day)).findFirst().orElse(-1);
        }

        int hallOn(int hall, int day) {
            return IntStream.range(0, begin.length).filter(i -> wall.tasks.get(i).hall == hall
                && isOn(wall.tasks.get(i), day)).findFirst().orElse(-1);
        }

        int count() {
            return (int) wall.tasks.stream().filter(this::isLaid).count();
        }

        int end() {
            return wall.tasks.stream().filter(this::isLaid).mapToInt(t -> beginOf(t) + t.length).max().orElse(0);
        }

        int waited(Task task) {
            return isLaid(task) ? beginOf(task) - start(task) : 0;
        }

        int waitedByAll() {
            return wall.tasks.stream().mapToInt(this::waited).sum();
        }
    }

    private Wall wall = new Wall();
    private final Deque<Wall> saved = new ArrayDeque<>();
    private String text = "";

    private void index(boolean isThere) {
        if (!isThere) {
            throw new IndexOutOfBoundsException();
        }
    }

    private void argument(boolean isRight) {
        if (!isRight) {
            throw new IllegalArgumentException();
        }
    }

    private void state(boolean isSo) {
        if (!isSo) {
            throw new IllegalStateException();
        }
    }

    private boolean in(int value, int least, int most) {
        return least <= value && value <= most;
    }

    private Task get(int task) {
        index(in(task, 0, wall.tasks.size() - 1));
        return wall.tasks.get(task);
    }

    private Laid laid() {
        return new Laid(wall);
    }

    private void save() {
        saved.addLast(wall.copy());
        if (saved.size() > 6) {
            saved.removeFirst();
        }
    }

    int add(int length, int person, int hall) {
        argument(in(length, 1, 9) && in(person, -1, 5) && in(hall, -1, 3));
        state(wall.tasks.size() < 12);
        save();
        Task task = new Task();
        task.length = length;
        task.person = person;
        task.hall = hall;
        wall.tasks.add(task);
        return wall.tasks.size() - 1;
    }

    int remove(int task) {
        Task gone = get(task);
        save();
        int followers = (int) wall.followers(gone);
        wall.tasks.remove(gone);
        wall.tasks.forEach(t -> t.needed.remove(gone));
        return followers;
    }

    int need(int task, int other, boolean isSo) {
        Task needing = get(task);
        Task needed = get(other);
        argument(other < task);
        save();
        boolean before = needing.needed.remove(needed);
        if (isSo) {
            needing.needed.add(needed);
        }
        return before ? 1 : 0;
    }

    int change(int task, int what, int value) {
        Task changed = get(task);
        argument(in(what, 0, 3));
        argument(in(value, new int[] {1, -1, -1, 0}[what], new int[] {9, 5, 3, 60}[what]));
        save();
        int before = task(task, what);
        if (what == 0) {
            changed.length = value;
        } else if (what == 1) {
            changed.person = value;
        } else if (what == 2) {
            changed.hall = value;
        } else {
            changed.earliest = value;
        }
        return before;
    }

    int slip(int task, int days) {
        Task slipping = get(task);
        argument(in(days, 1, 20));
        Laid before = laid();
        state(before.isLaid(slipping) && before.beginOf(slipping) + days <= 60);
        save();
        int end = before.end();
        slipping.earliest = before.beginOf(slipping) + days;
        return laid().end() - end;
    }

    int borrow(int hall, int first, int last) {
        index(in(hall, 0, 3));
        argument(in(first, 0, 99) && in(last, first, 99));
        save();
        wall.from[hall] = first;
        wall.to[hall] = last;
        return laid().count();
    }

    int rule(int rule) {
        argument(in(rule, 0, 3));
        save();
        int before = wall.rule;
        wall.rule = rule;
        return before;
    }

    int append(int code) {
        argument(in(code, 33, 126));
        state(text.length() < 60);
        text += (char) code;
        return text.length();
    }

    int clearBuffer() {
        int length = text.length();
        text = "";
        return length;
    }

    int firstError() {
        for (int length = 1; length <= text.length(); length++) {
            Matcher matcher = TEXT.matcher(text.substring(0, length));
            if (!matcher.matches() && !matcher.hitEnd()) {
                return length - 1;
            }
        }
        return text.length();
    }

    int addAll() {
        argument(TEXT.matcher(text).matches());
        Wall tried = wall.copy();
        for (String part : text.split(";")) {
            Task task = new Task();
            String letters = part.contains("n") ? part.substring(part.indexOf('n') + 1) : "";
            String ahead = part.contains("n") ? part.substring(0, part.indexOf('n')) : part;
            task.length = ahead.charAt(1) - '0';
            task.person = ahead.contains("p") ? ahead.charAt(ahead.indexOf('p') + 1) - '0' : -1;
            task.hall = ahead.contains("h") ? ahead.charAt(ahead.indexOf('h') + 1) - '0' : -1;
            for (char letter : letters.toCharArray()) {
                state(letter - 'a' < tried.tasks.size());
                task.needed.add(tried.tasks.get(letter - 'a'));
            }
            tried.tasks.add(task);
        }
        state(tried.tasks.size() <= 12);
        save();
        wall = tried;
        text = "";
        return wall.tasks.size();
    }

    int undo() {
        state(!saved.isEmpty());
        wall = saved.removeLast();
        return saved.size();
    }

    int task(int task, int what) {
        Task asked = get(task);
        argument(in(what, 0, 8));
        Laid laid = laid();
        switch (what) {
            case 0: return asked.length;
            case 1: return asked.person;
            case 2: return asked.hall;
            case 3: return asked.earliest;
            case 4: return asked.needed.stream().mapToInt(t -> 1 << wall.tasks.indexOf(t)).sum();
            case 5: return (int) wall.followers(asked);
            case 6: return laid.beginOf(asked);
            case 7: return slack(task, laid);
            default: return laid.waited(asked);
        }
    }

    private int slack(int task, Laid laid) {
        if (laid.begin[task] < 0) {
            return -1;
        }
        int greatest = 0;
        for (int days = 1; days <= 30; days++) {
            Wall other = wall.copy();
            other.tasks.get(task).earliest = laid.begin[task] + days;
            Laid then = new Laid(other);
            if (then.count() >= laid.count() && then.end() <= laid.end()) {
                greatest = days;
            }
        }
        return greatest;
    }

    int personOn(int person, int day) {
        index(in(person, 0, 5) && in(day, 0, 99));
        return laid().personOn(person, day);
    }

    int hallOn(int hall, int day) {
        index(in(hall, 0, 3) && in(day, 0, 99));
        return laid().hallOn(hall, day);
    }

    int hall(int hall, int what) {
        index(in(hall, 0, 3));
        argument(in(what, 0, 3));
        Laid laid = laid();
        IntStream there = IntStream.rangeClosed(0, 99).map(day -> laid.hallOn(hall, day)).filter(t -> t >= 0);
        switch (what) {
            case 0: return wall.from[hall];
            case 1: return wall.to[hall];
            case 2: return (int) there.count();
            default: return (int) there.distinct().count();
        }
    }

    int count(int what) {
        argument(in(what, 0, 8));
        Laid laid = laid();
        switch (what) {
            case 0: return wall.tasks.size();
            case 1: return laid.count();
            case 2: return (int) wall.tasks.stream().filter(t -> !laid.isLaid(t)).count();
            case 3: return laid.end();
            case 4: return wall.tasks.stream().mapToInt(t -> t.length).sum();
            case 5: return (int) IntStream.range(0, wall.tasks.size()).filter(t -> slack(t, laid) == 0).count();
            case 6: return laid.waitedByAll();
            case 7: return wall.tasks.stream().mapToInt(this::row).max().orElse(0);
            default: return saved.size();
        }
    }

    /** The greatest sum of lengths of a row that ends with this task. */
    private int row(Task task) {
        return task.length + task.needed.stream().mapToInt(this::row).max().orElse(0);
    }

    int setting() {
        return wall.rule;
    }

    private Laid laidBy(int rule) {
        Wall other = wall.copy();
        other.rule = rule;
        return new Laid(other);
    }

    int ifRule(int rule, int what) {
        argument(in(rule, 0, 3) && in(what, 0, 2));
        Laid laid = laidBy(rule);
        return new int[] {laid.end(), laid.count(), laid.waitedByAll()}[what];
    }

    int bestRule() {
        return IntStream.range(0, 4).boxed().min(java.util.Comparator
            .comparing((Integer rule) -> -laidBy(rule).count()).thenComparing(rule -> laidBy(rule).end())
            .thenComparing(rule -> rule)).orElseThrow();
    }

    int ifFreed(int person) {
        index(in(person, 0, 5));
        Wall other = wall.copy();
        other.tasks.stream().filter(t -> t.person == person).forEach(t -> t.person = -1);
        return new Laid(other).end();
    }

    int worstSlip(int days) {
        argument(in(days, 1, 20));
        Laid laid = laid();
        return IntStream.range(0, wall.tasks.size())
            .filter(t -> laid.begin[t] >= 0 && laid.begin[t] + days <= 60).boxed()
            .min(java.util.Comparator.comparing((Integer t) -> -endWithSlip(t, laid.begin[t] + days))
                .thenComparing(t -> t)).orElse(-1);
    }

    private int endWithSlip(int task, int earliest) {
        Wall other = wall.copy();
        other.tasks.get(task).earliest = earliest;
        return new Laid(other).end();
    }

    double busyness() {
        Laid laid = laid();
        double sum = wall.tasks.stream().filter(laid::isLaid).mapToInt(t -> t.length).sum();
        return laid.end() == 0 ? 0.0 : sum / laid.end();
    }

    long digest() {
        List<Number> values = new ArrayList<>();
        for (int what = 0; what <= 8; what++) {
            values.add(count(what));
        }
        values.add(setting());
        for (int task = 0; task < wall.tasks.size(); task++) {
            for (int what = 0; what <= 8; what++) {
                values.add(task(task, what));
            }
        }
        for (int hall = 0; hall < 4; hall++) {
            for (int what = 0; what <= 3; what++) {
                values.add(hall(hall, what));
            }
        }
        for (int person = 0; person < 6; person++) {
            for (int day = 0; day <= 9; day++) {
                values.add(personOn(person, day));
            }
            values.add(ifFreed(person));
        }
        for (int rule = 0; rule < 4; rule++) {
            for (int what = 0; what <= 2; what++) {
                values.add(ifRule(rule, what));
            }
        }
        values.add(bestRule());
        values.add(worstSlip(3));
        values.add(Double.doubleToLongBits(busyness()));
        values.add(text.length());
        text.chars().forEach(values::add);
        long hash = 2791;
        for (Number value : values) {
            hash = 31 * hash + value.longValue();
        }
        return hash;
    }
}
