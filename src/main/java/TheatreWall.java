/** A wall of a theatre with magnets for tasks, people and borrowed halls. */
public final class TheatreWall {
    public static final int NONE = -1;

    private static final int MOST_TASKS = 12;
    private static final int LONGEST = 9;
    private static final int PERSONS = 6;
    private static final int HALLS = 4;
    private static final int RULES = 4;
    private static final int DAYS = 100;
    private static final int LATEST_EARLIEST = 60;
    private static final int MOST_SLIP = 20;
    private static final int MOST_SLACK = 30;
    private static final int MOST_SAVED = 6;
    private static final int MOST_CODES = 60;

    private static final int TASK_PROPERTIES = 9;
    private static final int HALL_PROPERTIES = 4;
    private static final int COUNTS = 9;
    private static final int RULE_NUMBERS = 3;
    private static final int DIGEST_DAYS = 10;
    private static final int DIGEST_SLIP = 3;
    private static final long DIGEST_START = 2791L;

    private final State now;
    private final Plan plan;
    // Every "what would be" is tried out on these two, so that no call makes rows of its own.
    private final State trial;
    private final Plan trialPlan;
    private final State[] saved;
    private final Text text;
    private final int[] rowSums;
    private int savedCount;

    public TheatreWall() {
        now = new State();
        plan = new Plan();
        trial = new State();
        trialPlan = new Plan();
        saved = new State[MOST_SAVED];
        for (int i = 0; i < MOST_SAVED; i++) {
            saved[i] = new State();
        }
        text = new Text();
        rowSums = new int[MOST_TASKS];
        savedCount = 0;
    }

    // ---- tasks

    public int add(int length, int person, int hall) throws IllegalArgumentException, IllegalStateException {
        if (!isLength(length) || !isPersonOrNone(person) || !isHallOrNone(hall)) {
            throw new IllegalArgumentException();
        }
        if (now.size >= MOST_TASKS) {
            throw new IllegalStateException();
        }
        saveState();
        now.appendTask(length, person, hall);
        plan.lay(now);
        return now.size - 1;
    }

    public int remove(int task) throws IndexOutOfBoundsException {
        if (!isTask(task)) {
            throw new IndexOutOfBoundsException();
        }
        int followers = now.followers(task);
        saveState();
        now.dropTask(task);
        plan.lay(now);
        return followers;
    }

    public int need(int task, int other, boolean isSo) throws IndexOutOfBoundsException, IllegalArgumentException {
        if (!isTask(task) || !isTask(other)) {
            throw new IndexOutOfBoundsException();
        }
        if (other >= task) {
            throw new IllegalArgumentException();
        }
        int before = now.isNeeded(task, other) ? 1 : 0;
        saveState();
        if (isSo) {
            now.needs[task] |= 1 << other;
        } else {
            now.needs[task] &= ~(1 << other);
        }
        plan.lay(now);
        return before;
    }

    public int change(int task, int what, int value) throws IndexOutOfBoundsException, IllegalArgumentException {
        if (!isTask(task)) {
            throw new IndexOutOfBoundsException();
        }
        if (!isValue(what, value)) {
            throw new IllegalArgumentException();
        }
        saveState();
        int[] row = now.property(what);
        int before = row[task];
        row[task] = value;
        plan.lay(now);
        return before;
    }

    public int slip(int task, int days)
            throws IndexOutOfBoundsException, IllegalArgumentException, IllegalStateException {
        if (!isTask(task)) {
            throw new IndexOutOfBoundsException();
        }
        if (!isSlip(days)) {
            throw new IllegalArgumentException();
        }
        if (!couldSlip(task, days)) {
            throw new IllegalStateException();
        }
        int before = plan.end;
        saveState();
        now.earliest[task] = plan.begins[task] + days;
        plan.lay(now);
        return plan.end - before;
    }

    public int borrow(int hall, int first, int last) throws IndexOutOfBoundsException, IllegalArgumentException {
        if (!isHall(hall)) {
            throw new IndexOutOfBoundsException();
        }
        if (!isDay(first) || !isDay(last) || last < first) {
            throw new IllegalArgumentException();
        }
        saveState();
        now.firstDays[hall] = first;
        now.lastDays[hall] = last;
        plan.lay(now);
        return plan.laidCount;
    }

    public int rule(int rule) throws IllegalArgumentException {
        if (!isRule(rule)) {
            throw new IllegalArgumentException();
        }
        int before = now.order;
        saveState();
        now.order = rule;
        plan.lay(now);
        return before;
    }

    // ---- texts

    public int append(int code) throws IllegalArgumentException, IllegalStateException {
        if (code < 33 || code > 126) {
            throw new IllegalArgumentException();
        }
        if (text.size >= MOST_CODES) {
            throw new IllegalStateException();
        }
        text.codes[text.size] = code;
        text.size++;
        return text.size;
    }

    public int clearBuffer() {
        int before = text.size;
        text.size = 0;
        return before;
    }

    public int firstError() {
        return text.firstWrong();
    }

    public int addAll() throws IllegalArgumentException, IllegalStateException {
        if (!text.isComplete()) {
            throw new IllegalArgumentException();
        }
        trial.copyFrom(now);
        if (!text.addTasksTo(trial)) {
            throw new IllegalStateException();
        }
        saveState();
        now.copyFrom(trial);
        text.size = 0;
        plan.lay(now);
        return now.size;
    }

    public int undo() throws IllegalStateException {
        if (savedCount <= 0) {
            throw new IllegalStateException();
        }
        savedCount--;
        now.copyFrom(saved[savedCount]);
        plan.lay(now);
        return savedCount;
    }

    // ---- looks; nothing is changed

    public int task(int task, int what) throws IndexOutOfBoundsException, IllegalArgumentException {
        if (!isTask(task)) {
            throw new IndexOutOfBoundsException();
        }
        if (what < 0 || what >= TASK_PROPERTIES) {
            throw new IllegalArgumentException();
        }
        switch (what) {
            case 5:
                return now.followers(task);
            case 6:
                return plan.begins[task];
            case 7:
                return slackOf(task);
            case 8:
                return plan.waitOf(now, task);
            default:
                return now.property(what)[task];
        }
    }

    public int personOn(int person, int day) throws IndexOutOfBoundsException {
        if (!isPerson(person) || !isDay(day)) {
            throw new IndexOutOfBoundsException();
        }
        return plan.taskOn(now, now.persons, person, day);
    }

    public int hallOn(int hall, int day) throws IndexOutOfBoundsException {
        if (!isHall(hall) || !isDay(day)) {
            throw new IndexOutOfBoundsException();
        }
        return plan.taskOn(now, now.halls, hall, day);
    }

    public int hall(int hall, int what) throws IndexOutOfBoundsException, IllegalArgumentException {
        if (!isHall(hall)) {
            throw new IndexOutOfBoundsException();
        }
        if (what < 0 || what >= HALL_PROPERTIES) {
            throw new IllegalArgumentException();
        }
        switch (what) {
            case 0:
                return now.firstDays[hall];
            case 1:
                return now.lastDays[hall];
            case 2:
                return plan.daysIn(now, hall);
            default:
                return plan.tasksIn(now, hall);
        }
    }

    public int count(int what) throws IllegalArgumentException {
        if (what < 0 || what >= COUNTS) {
            throw new IllegalArgumentException();
        }
        switch (what) {
            case 0:
                return now.size;
            case 1:
                return plan.laidCount;
            case 2:
                return now.size - plan.laidCount;
            case 3:
                return plan.end;
            case 4:
                return now.lengthOfAll();
            case 5:
                return criticalTasks();
            case 6:
                return plan.waitOfAll(now);
            case 7:
                return longestRow();
            default:
                return savedCount;
        }
    }

    public int setting() {
        return now.order;
    }

    // ---- what would be; nothing is changed

    public int ifRule(int rule, int what) throws IllegalArgumentException {
        if (!isRule(rule) || what < 0 || what >= RULE_NUMBERS) {
            throw new IllegalArgumentException();
        }
        tryRule(rule);
        switch (what) {
            case 0:
                return trialPlan.end;
            case 1:
                return trialPlan.laidCount;
            default:
                return trialPlan.waitOfAll(trial);
        }
    }

    public int bestRule() {
        int best = 0;
        int mostLaid = NONE;
        int leastEnd = 0;
        for (int rule = 0; rule < RULES; rule++) {
            tryRule(rule);
            int laid = trialPlan.laidCount;
            int end = trialPlan.end;
            if (laid > mostLaid || (laid == mostLaid && end < leastEnd)) {
                best = rule;
                mostLaid = laid;
                leastEnd = end;
            }
        }
        return best;
    }

    public int ifFreed(int person) throws IndexOutOfBoundsException {
        if (!isPerson(person)) {
            throw new IndexOutOfBoundsException();
        }
        trial.copyFrom(now);
        for (int task = 0; task < trial.size; task++) {
            if (trial.persons[task] == person) {
                trial.persons[task] = NONE;
            }
        }
        trialPlan.lay(trial);
        return trialPlan.end;
    }

    public int worstSlip(int days) throws IllegalArgumentException {
        if (!isSlip(days)) {
            throw new IllegalArgumentException();
        }
        int worst = NONE;
        int latestEnd = NONE;
        for (int task = 0; task < now.size; task++) {
            if (couldSlip(task, days)) {
                trial.copyFrom(now);
                trial.earliest[task] = plan.begins[task] + days;
                trialPlan.lay(trial);
                if (trialPlan.end > latestEnd) {
                    worst = task;
                    latestEnd = trialPlan.end;
                }
            }
        }
        return worst;
    }

    public double busyness() {
        int end = plan.end;
        if (end <= 0) {
            return 0.0;
        }
        return (double) plan.lengthOfLaid(now) / (double) end;
    }

    public long digest() {
        long hash = DIGEST_START;
        for (int what = 0; what < COUNTS; what++) {
            hash = 31L * hash + count(what);
        }
        hash = 31L * hash + now.order;
        hash = withTasks(hash);
        hash = withHalls(hash);
        hash = withPersons(hash);
        hash = withRules(hash);
        hash = 31L * hash + bestRule();
        hash = 31L * hash + worstSlip(DIGEST_SLIP);
        hash = 31L * hash + bitsOf(busyness());
        return withText(hash);
    }

    // ---- the parts of the digest

    private long withTasks(long start) {
        long hash = start;
        for (int task = 0; task < now.size; task++) {
            for (int what = 0; what < TASK_PROPERTIES; what++) {
                hash = 31L * hash + task(task, what);
            }
        }
        return hash;
    }

    private long withHalls(long start) {
        long hash = start;
        for (int hall = 0; hall < HALLS; hall++) {
            for (int what = 0; what < HALL_PROPERTIES; what++) {
                hash = 31L * hash + hall(hall, what);
            }
        }
        return hash;
    }

    private long withPersons(long start) {
        long hash = start;
        for (int person = 0; person < PERSONS; person++) {
            for (int day = 0; day < DIGEST_DAYS; day++) {
                hash = 31L * hash + personOn(person, day);
            }
            hash = 31L * hash + ifFreed(person);
        }
        return hash;
    }

    private long withRules(long start) {
        long hash = start;
        for (int rule = 0; rule < RULES; rule++) {
            for (int what = 0; what < RULE_NUMBERS; what++) {
                hash = 31L * hash + ifRule(rule, what);
            }
        }
        return hash;
    }

    private long withText(long start) {
        long hash = 31L * start + text.size;
        for (int i = 0; i < text.size; i++) {
            hash = 31L * hash + text.codes[i];
        }
        return hash;
    }

    /**
     * The bits as Double.doubleToLongBits gives them, for 0.0 and for what busyness answers:
     * the language of this file does not have that function. Each step on the double is exact.
     */
    private static long bitsOf(double value) {
        if (!(value > 0.0)) {
            return 0L;
        }
        double mantissa = value;
        int exponent = 1023;
        for (int i = 0; i < 1023 && mantissa >= 2.0; i++) {
            mantissa = mantissa / 2.0;
            exponent++;
        }
        for (int i = 0; i < 1022 && mantissa < 1.0; i++) {
            mantissa = mantissa * 2.0;
            exponent--;
        }
        long fraction = (long) ((mantissa - 1.0) * (double) (1L << 52));
        return ((long) exponent << 52) + fraction;
    }

    // ---- ranges

    private boolean isTask(int task) {
        return task >= 0 && task < now.size;
    }

    private static boolean isLength(int length) {
        return length >= 1 && length <= LONGEST;
    }

    private static boolean isPerson(int person) {
        return person >= 0 && person < PERSONS;
    }

    private static boolean isPersonOrNone(int person) {
        return person == NONE || isPerson(person);
    }

    private static boolean isHall(int hall) {
        return hall >= 0 && hall < HALLS;
    }

    private static boolean isHallOrNone(int hall) {
        return hall == NONE || isHall(hall);
    }

    private static boolean isDay(int day) {
        return day >= 0 && day < DAYS;
    }

    private static boolean isRule(int rule) {
        return rule >= 0 && rule < RULES;
    }

    private static boolean isSlip(int days) {
        return days >= 1 && days <= MOST_SLIP;
    }

    private static boolean isValue(int what, int value) {
        switch (what) {
            case 0:
                return isLength(value);
            case 1:
                return isPersonOrNone(value);
            case 2:
                return isHallOrNone(value);
            case 3:
                return value >= 0 && value <= LATEST_EARLIEST;
            default:
                return false;
        }
    }

    // ---- saved states

    private void saveState() {
        if (savedCount >= MOST_SAVED) {
            dropOldest();
        }
        saved[savedCount].copyFrom(now);
        savedCount++;
    }

    private void dropOldest() {
        State oldest = saved[0];
        for (int i = 1; i < MOST_SAVED; i++) {
            saved[i - 1] = saved[i];
        }
        saved[MOST_SAVED - 1] = oldest;
        savedCount = MOST_SAVED - 1;
    }

    // ---- what follows from the plan

    private boolean couldSlip(int task, int days) {
        int begin = plan.begins[task];
        return begin != NONE && begin + days <= LATEST_EARLIEST;
    }

    private void tryRule(int rule) {
        trial.copyFrom(now);
        trial.order = rule;
        trialPlan.lay(trial);
    }

    private int slackOf(int task) {
        int begin = plan.begins[task];
        if (begin == NONE) {
            return NONE;
        }
        trial.copyFrom(now);
        // A lesser number may fail where a greater one does not, so the search comes from above.
        for (int days = MOST_SLACK; days > 0; days--) {
            trial.earliest[task] = begin + days;
            trialPlan.lay(trial);
            if (trialPlan.laidCount >= plan.laidCount && trialPlan.end <= plan.end) {
                return days;
            }
        }
        return 0;
    }

    private int criticalTasks() {
        int critical = 0;
        for (int task = 0; task < now.size; task++) {
            if (slackOf(task) == 0) {
                critical++;
            }
        }
        return critical;
    }

    private int longestRow() {
        int longest = 0;
        for (int task = 0; task < now.size; task++) {
            int ahead = 0;
            for (int other = 0; other < task; other++) {
                if (now.isNeeded(task, other)) {
                    ahead = Math.max(ahead, rowSums[other]);
                }
            }
            rowSums[task] = ahead + now.lengths[task];
            longest = Math.max(longest, rowSums[task]);
        }
        return longest;
    }

    /** All that undo restores: the tasks, the days of the halls, and the rule. */
    private static final class State {
        final int[] lengths = new int[MOST_TASKS];
        final int[] persons = new int[MOST_TASKS];
        final int[] halls = new int[MOST_TASKS];
        final int[] earliest = new int[MOST_TASKS];
        final int[] needs = new int[MOST_TASKS];
        final int[] firstDays = new int[HALLS];
        final int[] lastDays = new int[HALLS];
        int size = 0;
        int order = 0;

        State() {
            for (int hall = 0; hall < HALLS; hall++) {
                lastDays[hall] = DAYS - 1;
            }
        }

        void copyFrom(State other) {
            size = other.size;
            order = other.order;
            for (int task = 0; task < size; task++) {
                lengths[task] = other.lengths[task];
                persons[task] = other.persons[task];
                halls[task] = other.halls[task];
                earliest[task] = other.earliest[task];
                needs[task] = other.needs[task];
            }
            for (int hall = 0; hall < HALLS; hall++) {
                firstDays[hall] = other.firstDays[hall];
                lastDays[hall] = other.lastDays[hall];
            }
        }

        int[] property(int what) {
            switch (what) {
                case 0:
                    return lengths;
                case 1:
                    return persons;
                case 2:
                    return halls;
                case 3:
                    return earliest;
                default:
                    return needs;
            }
        }

        /** Only while there are fewer tasks than the most. */
        void appendTask(int length, int person, int hall) {
            lengths[size] = length;
            persons[size] = person;
            halls[size] = hall;
            earliest[size] = 0;
            needs[size] = 0;
            size++;
        }

        void dropTask(int gone) {
            size--;
            for (int task = gone; task < size; task++) {
                lengths[task] = lengths[task + 1];
                persons[task] = persons[task + 1];
                halls[task] = halls[task + 1];
                earliest[task] = earliest[task + 1];
                needs[task] = withoutBit(needs[task + 1], gone);
            }
        }

        /** The mask with that bit taken out, and those above it one lower. */
        private static int withoutBit(int mask, int bit) {
            int below = mask & ((1 << bit) - 1);
            int above = (mask >> (bit + 1)) << bit;
            return below | above;
        }

        boolean isNeeded(int task, int other) {
            return (needs[task] & (1 << other)) != 0;
        }

        int followers(int task) {
            int followers = 0;
            for (int other = task + 1; other < size; other++) {
                if (isNeeded(other, task)) {
                    followers++;
                }
            }
            return followers;
        }

        int lengthOfAll() {
            int sum = 0;
            for (int task = 0; task < size; task++) {
                sum += lengths[task];
            }
            return sum;
        }

        /** By the rule, the task with the greatest key is laid first. */
        int keyOf(int task) {
            switch (order) {
                case 1:
                    return lengths[task];
                case 2:
                    return followers(task);
                case 3:
                    return earliest[task];
                default:
                    return 0;
            }
        }

        boolean share(int task, int other) {
            boolean isPersonShared = persons[task] != NONE && persons[task] == persons[other];
            boolean isHallShared = halls[task] != NONE && halls[task] == halls[other];
            return isPersonShared || isHallShared;
        }
    }

    /** On which day each task of a state begins. */
    private static final class Plan {
        final int[] begins = new int[MOST_TASKS];
        final int[] keys = new int[MOST_TASKS];
        int laidMask = 0;
        int laidCount = 0;
        int end = 0;

        void lay(State state) {
            laidMask = 0;
            laidCount = 0;
            end = 0;
            for (int task = 0; task < state.size; task++) {
                begins[task] = NONE;
                keys[task] = state.keyOf(task);
            }
            int triedMask = 0;
            for (int round = 0; round < state.size; round++) {
                int task = firstByRule(state, triedMask);
                if (task == NONE) {
                    return;
                }
                triedMask |= 1 << task;
                int day = firstDay(state, task);
                if (day != NONE) {
                    begins[task] = day;
                    laidMask |= 1 << task;
                    laidCount++;
                    end = Math.max(end, day + state.lengths[task]);
                }
            }
        }

        private int firstByRule(State state, int triedMask) {
            int first = NONE;
            int greatest = NONE;
            for (int task = 0; task < state.size; task++) {
                boolean isTried = (triedMask & (1 << task)) != 0;
                boolean isReady = (state.needs[task] & ~laidMask) == 0;
                if (!isTried && isReady && keys[task] > greatest) {
                    first = task;
                    greatest = keys[task];
                }
            }
            return first;
        }

        private int firstDay(State state, int task) {
            int day = startOf(state, task);
            int behind = DAYS;
            int hall = state.halls[task];
            if (hall != NONE) {
                day = Math.max(day, state.firstDays[hall]);
                behind = state.lastDays[hall] + 1;
            }
            // Each turn but the last passes a task for good, so there are no more turns than tasks.
            for (int turn = 0; turn < MOST_TASKS && day + state.lengths[task] <= behind; turn++) {
                int free = behindClash(state, task, day);
                if (free == day) {
                    return day;
                }
                day = free;
            }
            return NONE;
        }

        /** The day behind a task that is in the way of this task on this day; this day if none is. */
        private int behindClash(State state, int task, int day) {
            int behind = day + state.lengths[task];
            for (int other = 0; other < state.size; other++) {
                int otherBegin = begins[other];
                int otherBehind = otherBegin + state.lengths[other];
                if (otherBegin != NONE && otherBegin < behind && day < otherBehind && state.share(task, other)) {
                    return otherBehind;
                }
            }
            return day;
        }

        /** The day ahead of which its earliest day, and what it needs, do not let it begin. */
        private int startOf(State state, int task) {
            int start = state.earliest[task];
            for (int other = 0; other < task; other++) {
                if (begins[other] != NONE && state.isNeeded(task, other)) {
                    start = Math.max(start, begins[other] + state.lengths[other]);
                }
            }
            return start;
        }

        int waitOf(State state, int task) {
            return begins[task] == NONE ? 0 : begins[task] - startOf(state, task);
        }

        int waitOfAll(State state) {
            int sum = 0;
            for (int task = 0; task < state.size; task++) {
                sum += waitOf(state, task);
            }
            return sum;
        }

        int lengthOfLaid(State state) {
            int sum = 0;
            for (int task = 0; task < state.size; task++) {
                if (begins[task] != NONE) {
                    sum += state.lengths[task];
                }
            }
            return sum;
        }

        /** The task on a day whose person or hall, whichever the row tells, is this one. */
        int taskOn(State state, int[] row, int owner, int day) {
            for (int task = 0; task < state.size; task++) {
                int begin = begins[task];
                if (begin != NONE && row[task] == owner && begin <= day && day < begin + state.lengths[task]) {
                    return task;
                }
            }
            return NONE;
        }

        int daysIn(State state, int hall) {
            int days = 0;
            for (int task = 0; task < state.size; task++) {
                if (begins[task] != NONE && state.halls[task] == hall) {
                    days += state.lengths[task];
                }
            }
            return days;
        }

        int tasksIn(State state, int hall) {
            int tasks = 0;
            for (int task = 0; task < state.size; task++) {
                if (begins[task] != NONE && state.halls[task] == hall) {
                    tasks++;
                }
            }
            return tasks;
        }
    }

    /** The buffer, and how tasks are read from it. */
    private static final class Text {
        // What has been read last, and so what may come next. The place NEEDS + k is behind "n"
        // and its letters: the k-th letter of "a" to "l" and those behind it may come.
        private static final int WRONG = -1;
        private static final int PART = 0;
        private static final int LENGTH = 1;
        private static final int PERSON = 2;
        private static final int HALL = 3;
        private static final int BEHIND_LENGTH = 4;
        private static final int BEHIND_PERSON = 5;
        private static final int BEHIND_HALL = 6;
        private static final int NEEDS = 7;

        final int[] codes = new int[MOST_CODES];
        int size = 0;

        int firstWrong() {
            int place = PART;
            for (int i = 0; i < size; i++) {
                place = placeBehind(place, codes[i]);
                if (place == WRONG) {
                    return i;
                }
            }
            return size;
        }

        boolean isComplete() {
            int place = PART;
            for (int i = 0; i < size && place != WRONG; i++) {
                place = placeBehind(place, codes[i]);
            }
            return isPartWhole(place);
        }

        private static boolean isPartWhole(int place) {
            return place >= BEHIND_LENGTH && place != NEEDS;
        }

        private static int placeBehind(int place, int code) {
            if (code == ';') {
                return isPartWhole(place) ? PART : WRONG;
            }
            if (place >= NEEDS) {
                boolean isLetter = code - 'a' >= place - NEEDS && code - 'a' < MOST_TASKS;
                return isLetter ? NEEDS + (code - 'a') + 1 : WRONG;
            }
            switch (place) {
                case PART:
                    return code == 'd' ? LENGTH : WRONG;
                case LENGTH:
                    return isLength(code - '0') ? BEHIND_LENGTH : WRONG;
                case PERSON:
                    return isPerson(code - '0') ? BEHIND_PERSON : WRONG;
                case HALL:
                    return isHall(code - '0') ? BEHIND_HALL : WRONG;
                default:
                    return placeBehindMark(place, code);
            }
        }

        private static int placeBehindMark(int place, int code) {
            if (code == 'p' && place == BEHIND_LENGTH) {
                return PERSON;
            }
            if (code == 'h' && (place == BEHIND_LENGTH || place == BEHIND_PERSON)) {
                return HALL;
            }
            return code == 'n' && place != WRONG ? NEEDS : WRONG;
        }

        /** Only of a complete text. Answers whether there was room, and what they need was ahead of them. */
        boolean addTasksTo(State state) {
            int place = PART;
            for (int i = 0; i < size; i++) {
                if (place == PART) {
                    if (state.size >= MOST_TASKS) {
                        return false;
                    }
                    state.appendTask(1, NONE, NONE);
                } else if (!readInto(state, place, codes[i])) {
                    return false;
                }
                place = placeBehind(place, codes[i]);
            }
            return true;
        }

        /** Gives the last task of the state what a character tells at its place. */
        private static boolean readInto(State state, int place, int code) {
            int task = state.size - 1;
            if (task < 0) {
                return false;
            }
            if (place == LENGTH) {
                state.lengths[task] = code - '0';
            } else if (place == PERSON) {
                state.persons[task] = code - '0';
            } else if (place == HALL) {
                state.halls[task] = code - '0';
            } else if (place >= NEEDS && code != ';') {
                int other = code - 'a';
                if (other >= task) {
                    return false;
                }
                state.needs[task] |= 1 << other;
            }
            return true;
        }
    }
}
