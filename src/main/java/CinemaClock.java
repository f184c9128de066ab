/**
 * The clockwork of a cinema house: tasks that are due once, at a rate, with a pause, by a calendar
 * or after others, and a few workers that do them, minute by minute.
 */
public final class CinemaClock {
    public static final int NONE = -1, BAD = -2, STATE = -3, FULL = -4;

    private static final int MOST_TASKS = 60, MOST_RUNS = 2000, MOST_DUES = 100;
    private static final int MOST_WORKERS = 8, MOST_GROUPS = 8, CELLS = 8;
    private static final int MOST_FORMS = 4, MOST_NOTES = 4, MOST_PLANS = 40, MOST_ROWS = 300;
    private static final int LAST_MINUTE = 400000, LONGEST_STEP = 5000, LONGEST_PAUSE = 100000;
    private static final int MOST_JUMP = 720, MOST_OFFSET = 1440, LAST_TIME = 50, LAST_KIND = 15;
    private static final int LONGEST_REST = 64, MISSING_TASK = 14, LAST_LISTED = 9;

    // Kinds of tasks.
    private static final int ONCE = 0, RATE = 1, PAUSE = 2, CALENDAR = 3, AFTER = 4;
    // What a task is told by set().
    private static final int LENGTH = 0, RANK = 1, GROUP = 2, OVERLAP = 3, MISS = 4, FAILURE = 5;
    // The rules, as set() takes them.
    private static final int SKIP = 0, BESIDE = 2, DROP = 0, MERGE = 1, KEEP = 2, HALT = 0, REST = 2;
    // What a task is, as of() answers it; a task that is ACTIVE has the least of them.
    private static final int ACTIVE = 0, BUSY = 1, OVER = 2, CANCELLED = 3, STOPPED = 4;
    // What became of a run, as run() answers it.
    private static final int AT_WORK = 0, GOOD = 1, FAILED = 2, INTERRUPTED = 3;
    // What became of a due, as book() answers it; the two last ones are never in the book.
    private static final int LATE = 2, JUMPED = 3, HOUSE_STOPPED = 4, RESTING = 5, CROWDED = 6;
    private static final int SKIPPED = 7, WAITS = 8;

    private final Task[] tasks = new Task[MOST_TASKS];
    private final Run[] runs = new Run[MOST_RUNS];
    private final Run[] atWork = new Run[MOST_WORKERS];
    private final Dues dues = new Dues();
    private final Book book = new Book();
    private final Plans plans = new Plans();
    private final int[] groupMost = new int[MOST_GROUPS];
    private final int[] idleMinutes = new int[MOST_WORKERS];
    private final boolean[] busy = new boolean[MOST_WORKERS];
    private final int[] cells = new int[CELLS];
    private final int[] chain = new int[MOST_TASKS];
    private int taskCount = 0;
    private int runCount = 0;
    private int workCount = 0;
    private int groupCount = 0;
    private int workerCount = 1;
    private int now = 0;
    private int offset = 0;
    private int high = -1;
    private boolean houseStopped = false;

    public CinemaClock() {
    }

    // ---- what the house has and what it is told ----

    public int workers(int n) {
        if (!isWithin(n, 1, MOST_WORKERS)) return BAD;
        if (workCount > 0) return STATE;
        workerCount = n;
        for (int w = 0; w < MOST_WORKERS; w++) idleMinutes[w] = 0;
        return n;
    }

    public int group(int most) {
        if (!isWithin(most, 1, MOST_WORKERS)) return BAD;
        if (groupCount >= MOST_GROUPS) return FULL;
        groupMost[groupCount] = most;
        groupCount++;
        return groupCount - 1;
    }

    public int task(int kind, int a, int b) {
        if (!isWithin(kind, ONCE, AFTER)) return BAD;
        if (kind <= PAUSE && !isWithin(a, now, LAST_MINUTE)) return BAD;
        if ((kind == RATE || kind == PAUSE) && !isWithin(b, 1, LONGEST_PAUSE)) return BAD;
        if (taskCount >= MOST_TASKS) return FULL;
        tasks[taskCount] = new Task(taskCount, kind, a, b);
        taskCount++;
        return taskCount - 1;
    }

    public int set(int task, int what, int v) {
        Task told = taskAt(task);
        if (told == null || !isWithin(what, LENGTH, FAILURE)) return BAD;
        if (!isWithin(v, leastTold(what), mostTold(what))) return BAD;
        int before = told.told[what];
        told.told[what] = v;
        return before;
    }

    private static int leastTold(int what) {
        if (what == LENGTH) return 1;
        return what == GROUP ? NONE : 0;
    }

    private int mostTold(int what) {
        switch (what) {
            case LENGTH: return 120;
            case RANK: return 9;
            case GROUP: return groupCount - 1;
            default: return 2;
        }
    }

    public int calendar(int task, int form, int a, int b) {
        Task told = taskAt(task);
        if (told == null || told.kind != CALENDAR || !Calendar.isForm(form, a, b)) return BAD;
        if (told.calendar.forms >= MOST_FORMS) return FULL;
        told.calendar.add(form, a, b);
        return told.calendar.forms;
    }

    public int body(int task, int act, int x, int y) {
        Task told = taskAt(task);
        if (told == null || !isWithin(act, 0, 6)) return BAD;
        int before = told.act;
        told.act = act;
        told.x = x;
        told.y = y;
        return before;
    }

    public int after(int task, int other, int how) {
        Task told = taskAt(task);
        if (told == null || told.kind != AFTER || taskAt(other) == null) return BAD;
        if (task == other || !isWithin(how, 0, 2)) return BAD;
        if (comesAfter(other, task)) return STATE;
        if (told.notes.count >= MOST_NOTES) return FULL;
        told.notes.add(other, how);
        return told.notes.count;
    }

    /** Whether the first task comes after the second one, by notes of notes. */
    private boolean comesAfter(int first, int second) {
        int found = link(first, 0);
        for (int asked = 0; asked < found; asked++) {
            Task task = taskAt(chain[asked]);
            if (task == null) continue;
            if (task.number == second) return true;
            for (int n = 0; n < task.notes.count; n++) found = link(task.notes.other[n], found);
        }
        return false;
    }

    /** Puts a task behind the others in the chain, if it isn't in it; how long the chain is then. */
    private int link(int task, int found) {
        if (found >= MOST_TASKS) return found;
        for (int k = 0; k < found; k++) if (chain[k] == task) return found;
        chain[found] = task;
        return found + 1;
    }

    public int plan(int task, int time, int kind) {
        if (taskAt(task) == null || !isWithin(time, 1, LAST_TIME)) return BAD;
        if (!isWithin(kind, 0, LAST_KIND)) return BAD;
        return plans.put(task, time, kind) ? plans.count : FULL;
    }

    public int clearPlan() {
        int before = plans.count;
        plans.count = 0;
        return before;
    }

    // ---- the minutes ----

    public int clock(int minute) {
        if (!isWithin(minute, now, Math.min(now + LONGEST_STEP, LAST_MINUTE))) return BAD;
        int before = runCount;
        int minutes = minute - now;
        for (int m = 0; m < minutes; m++) treatMinute();
        return runCount - before;
    }

    private void treatMinute() {
        endRuns();
        bringDues();
        missDues();
        beginRuns();
        for (int w = 0; w < workerCount; w++) if (!busy[w]) idleMinutes[w]++;
        now++;
    }

    private void endRuns() {
        for (int turn = 0; turn < MOST_WORKERS; turn++) {
            Run run = firstEnding();
            if (run == null) return;
            endRun(run);
        }
    }

    private Run firstEnding() {
        for (int k = 0; k < workCount; k++) {
            Run run = atWork[k];
            if (run != null && run.end == now) return run;
        }
        return null;
    }

    private void endRun(Run run) {
        Task task = run.task;
        int kind = plans.kindOf(task.number, run.time);
        if (kind == NONE) kind = act(run);
        boolean good = kind == NONE;
        layDown(run, good ? GOOD : FAILED);
        run.failure = kind;
        if (good) task.failures = 0; else task.failures++;
        if (task.isActive()) followEnd(task, good);
        tellAfters(task, good);
    }

    /** Does the act of a run's body: the kind with which the run fails, or NONE. */
    private int act(Run run) {
        int x = run.task.x;
        int cell = run.task.y & 7;
        Task other = taskAt(x);
        switch (run.task.act) {
            case 1: cells[cell] += x; return NONE;
            case 2: cells[cell] = x * cells[cell] + run.number; return NONE;
            case 3: return (cells[cell] & 1) != 0 ? x & 15 : NONE;
            case 4: cells[cell] = now; return NONE;
            case 5:
                if (other == null || !other.isActive()) return MISSING_TASK;
                leave(other, CANCELLED);
                return NONE;
            case 6:
                if (other == null || !other.isActive()) return MISSING_TASK;
                other.fireFor(now + 1);
                return NONE;
            default: return NONE;
        }
    }

    /** What comes of an end for the run's own task, which is ACTIVE still. */
    private void followEnd(Task task, boolean good) {
        if (task.kind == PAUSE) task.nextDue = now + task.b;
        if (good) return;
        if (task.told[FAILURE] == HALT) leave(task, STOPPED);
        if (task.told[FAILURE] == REST) {
            int rest = restAfter(task.failures);
            if (task.kind == PAUSE) task.nextDue += rest; else task.restsTill = now + rest;
        }
    }

    private static int restAfter(int failures) {
        return failures > 6 ? LONGEST_REST : 1 << Math.max(failures - 1, 0);
    }

    /** Takes a run from its worker, with what became of it. */
    private void layDown(Run run, int outcome) {
        int kept = 0;
        for (int k = 0; k < workCount; k++) {
            if (atWork[k] != run) {
                atWork[kept] = atWork[k];
                kept++;
            }
        }
        workCount = kept;
        busy[run.worker] = false;
        run.task.working--;
        run.ended = now;
        run.outcome = outcome;
    }

    private void tellAfters(Task ended, boolean good) {
        for (int t = 0; t < taskCount; t++) {
            Task task = taskAt(t);
            if (isActive(task) && task.kind == AFTER && task.notes.fit(ended.number, good)) comeDue(task);
        }
    }

    private void bringDues() {
        int house = now + offset;
        for (int t = 0; t < taskCount; t++) {
            Task task = taskAt(t);
            if (!isActive(task)) continue;
            if (isDueByKind(task, house)) {
                if (task.kind == PAUSE) task.nextDue = NONE;
                comeDue(task);
            }
            if (task.isFiredFor(now)) comeDue(task);
        }
        high = Math.max(high, house);
    }

    private boolean isDueByKind(Task task, int house) {
        switch (task.kind) {
            case ONCE: return task.a == now;
            case RATE: return task.a <= now && Math.floorMod(now - task.a, task.step()) == 0;
            case PAUSE: return task.nextDue == now;
            case CALENDAR: return house > high && task.calendar.fits(house);
            default: return false;
        }
    }

    /** A due of the minute NOW comes to a task that is ACTIVE. */
    private void comeDue(Task task) {
        int fate = fateOfDue(task);
        if (fate == WAITS) {
            dues.add(task, now);
            return;
        }
        if (fate == SKIPPED) task.skipped++; else book.add(task.number, now, fate);
        pauseAgain(task);
    }

    private int fateOfDue(Task task) {
        if (houseStopped) return HOUSE_STOPPED;
        if (task.restsTill > now) return RESTING;
        if (task.told[OVERLAP] == SKIP && task.working > 0) return SKIPPED;
        return dues.count >= MOST_DUES ? CROWDED : WAITS;
    }

    /** A PAUSE task that loses a due, or a run by stop(), would else never be due again. */
    private void pauseAgain(Task task) {
        if (task.kind == PAUSE && task.state == ACTIVE) task.nextDue = now + task.b;
    }

    private void missDues() {
        int i = 0;
        for (int turn = 0; turn < MOST_DUES && i < dues.count; turn++) {
            Task task = dues.task[i];
            if (task != null && isMissed(task, i)) i = missDue(task, i); else i++;
        }
    }

    private boolean isMissed(Task task, int i) {
        return !dues.late[i] && now - dues.minute[i] > task.told[LENGTH];
    }

    /** Deals with a missed due by its task's rule: the place of the due behind it. */
    private int missDue(Task task, int i) {
        int rule = task.told[MISS];
        if (rule == KEEP || rule == MERGE && task.waits < 2) {
            dues.late[i] = true;
            book.add(task.number, dues.minute[i], LATE);
            return i + 1;
        }
        book.add(task.number, dues.minute[i], rule);
        dues.remove(i);
        pauseAgain(task);
        return i;
    }

    private void beginRuns() {
        for (int turn = 0; turn < MOST_WORKERS; turn++) {
            int worker = freeWorker();
            if (worker == NONE || runCount >= MOST_RUNS) return;
            int first = firstToBegin();
            if (first == NONE) return;
            beginRun(first, worker);
        }
    }

    private int freeWorker() {
        for (int w = 0; w < workerCount; w++) if (!busy[w]) return w;
        return NONE;
    }

    private int firstToBegin() {
        int first = NONE;
        for (int i = 0; i < dues.count; i++) {
            if (mayBegin(dues.task[i]) && (first == NONE || dues.isAhead(i, first))) first = i;
        }
        return first;
    }

    private boolean mayBegin(Task task) {
        if (task == null || task.told[OVERLAP] != BESIDE && task.working > 0) return false;
        int group = task.told[GROUP];
        return !isWithin(group, 0, groupCount - 1) || workIn(group) < groupMost[group];
    }

    private int workIn(int group) {
        int found = 0;
        for (int k = 0; k < workCount; k++) {
            Run run = atWork[k];
            if (run != null && run.group == group) found++;
        }
        return found;
    }

    private void beginRun(int due, int worker) {
        Task task = dues.task[due];
        if (task == null || workCount >= MOST_WORKERS || runCount >= MOST_RUNS) return;
        // The run takes its time (it is the task's time-th one) from what its task has begun.
        task.began++;
        task.working++;
        Run run = new Run(runCount, task, dues.minute[due], now, worker);
        dues.remove(due);
        runs[runCount] = run;
        runCount++;
        atWork[workCount] = run;
        workCount++;
        busy[worker] = true;
    }

    // ---- from outside ----

    public int jump(int j) {
        if (j == 0 || !isWithin(j, -MOST_JUMP, MOST_JUMP)) return BAD;
        if (!isWithin(offset + j, -MOST_OFFSET, MOST_OFFSET) || now + offset + j < 0) return BAD;
        if (j > 0) jumpOver(now + offset, now + offset + j - 1);
        offset += j;
        return offset;
    }

    private void jumpOver(int first, int last) {
        int from = Math.max(first, high + 1);
        for (int t = 0; t < taskCount; t++) {
            Task task = taskAt(t);
            if (isActive(task) && task.kind == CALENDAR) missJumped(task, from, last);
        }
        high = Math.max(high, last);
    }

    private void missJumped(Task task, int from, int last) {
        int rule = task.told[MISS];
        int house = task.calendar.firstFit(from, last);
        for (int found = 0; found < MOST_JUMP && house != NONE; found++) {
            if (rule == DROP) book.add(task.number, house, JUMPED); else comeDue(task);
            if (rule == MERGE) return;
            house = task.calendar.firstFit(house + 1, last);
        }
    }

    public int cancel(int task, int how) {
        Task told = taskAt(task);
        if (told == null || !isWithin(how, 0, 1)) return BAD;
        if (!told.isActive()) return STATE;
        leave(told, CANCELLED);
        if (how == 1) interruptRuns(told);
        return 1;
    }

    /** A task is ACTIVE no more; its dues go. */
    private void leave(Task task, int state) {
        task.state = state;
        dues.removeAll(task);
    }

    /** Interrupts the runs at work of a task, or all of them for null. */
    private void interruptRuns(Task task) {
        for (int turn = 0; turn < MOST_WORKERS; turn++) {
            Run run = firstAtWork(task);
            if (run == null) return;
            layDown(run, INTERRUPTED);
            if (task == null) pauseAgain(run.task);
            tellAfters(run.task, false);
        }
    }

    private Run firstAtWork(Task task) {
        for (int k = 0; k < workCount; k++) {
            Run run = atWork[k];
            if (run != null && (task == null || run.task == task)) return run;
        }
        return null;
    }

    public int stop(int how) {
        if (!isWithin(how, 0, 1)) return BAD;
        if (houseStopped) return STATE;
        houseStopped = true;
        if (how == 1) {
            dropDues();
            interruptRuns(null);
        }
        return 1;
    }

    private void dropDues() {
        for (int i = 0; i < dues.count; i++) {
            Task task = dues.task[i];
            if (task == null) continue;
            book.add(task.number, dues.minute[i], HOUSE_STOPPED);
            pauseAgain(task);
        }
        dues.clear();
    }

    public int go() {
        if (!houseStopped) return STATE;
        houseStopped = false;
        return 1;
    }

    // ---- what can be asked ----

    public int run(int i, int what) {
        Run run = isWithin(i, 0, runCount - 1) ? runs[i] : null;
        if (run == null) return BAD;
        switch (what) {
            case 0: return run.task.number;
            case 1: return run.dueMinute;
            case 2: return run.began;
            case 3: return run.ended;
            case 4: return run.outcome;
            case 5: return run.failure;
            case 6: return run.worker;
            case 7: return run.group;
            default: return BAD;
        }
    }

    public int of(int task, int what) {
        Task asked = taskAt(task);
        if (asked == null) return BAD;
        switch (what) {
            case 0: return stateOf(asked);
            case 1: return asked.kind;
            case 2: return asked.began;
            case 3: return asked.skipped;
            case 4: return asked.waits;
            case 5: return asked.failures;
            case 6: return asked.restsTill > now ? asked.restsTill : NONE;
            case 7: return asked.act;
            default: return BAD;
        }
    }

    private int stateOf(Task task) {
        if (!task.isActive()) return task.state;
        if (task.working > 0) return BUSY;
        // Being FIRED is of no matter: the document tells it apart from being due from NOW on.
        boolean over = task.kind == ONCE && task.a < now && task.waits == 0;
        return over ? OVER : ACTIVE;
    }

    public int next(int task, int i) {
        Task asked = taskAt(task);
        if (asked == null || !isWithin(i, 0, LAST_LISTED)) return BAD;
        return dueMinute(asked, i);
    }

    /** The i-th minute from NOW on at which a task is due by its kind, or NONE. */
    private int dueMinute(Task task, int i) {
        int minute = NONE;
        switch (task.kind) {
            case ONCE: minute = i == 0 ? task.a : NONE; break;
            case RATE: minute = task.firstOfRate(now) + i * task.b; break;
            case PAUSE: minute = i == 0 ? task.nextDue : NONE; break;
            case CALENDAR: return calendarMinute(task.calendar, i);
            default: break;
        }
        return isWithin(minute, now, LAST_MINUTE) ? minute : NONE;
    }

    private int calendarMinute(Calendar calendar, int i) {
        int last = LAST_MINUTE + offset;
        int house = calendar.firstFit(Math.max(now + offset, high + 1), last);
        for (int k = 0; k < i && house != NONE; k++) house = calendar.firstFit(house + 1, last);
        return house == NONE ? NONE : house - offset;
    }

    public int waiting(int i, int what) {
        if (!isWithin(what, 0, 2)) return BAD;
        if (!isWithin(i, 0, dues.count - 1)) return NONE;
        if (what == 1) return dues.minute[i];
        if (what == 2) return dues.late[i] ? 1 : 0;
        Task task = dues.task[i];
        return task == null ? NONE : task.number;
    }

    public int book(int i, int what) {
        if (!isWithin(what, 0, 2)) return BAD;
        if (!isWithin(i, 0, Math.min(book.rows, MOST_ROWS) - 1)) return NONE;
        if (what == 0) return book.task[i];
        return what == 1 ? book.minute[i] : book.fate[i];
    }

    public int count(int what) {
        switch (what) {
            case 0: return taskCount;
            case 1: return runCount;
            case 2: return dues.count;
            case 3: return workCount;
            case 4: return now;
            case 5: return offset;
            case 6: return book.rows;
            case 7: return groupCount;
            case 8: return workerCount;
            case 9: return high;
            case 10: return houseStopped ? 1 : 0;
            default: return BAD;
        }
    }

    public int cell(int c) {
        return isWithin(c, 0, CELLS - 1) ? cells[c] : 0;
    }

    public int day(int minute, int what) {
        if (!isWithin(minute, 0, Calendar.MINUTES_OF_YEAR - 1)) return BAD;
        int day = minute / Calendar.MINUTES_OF_DAY;
        int month = Calendar.monthOf(day);
        switch (what) {
            case 0: return month + 1;
            case 1: return day - Calendar.MONTH_STARTS[month] + 1;
            case 2: return minute / 60 % 24;
            case 3: return minute % 60;
            case 4: return day % 7;
            default: return BAD;
        }
    }

    public int idle(int worker) {
        return isWithin(worker, 0, workerCount - 1) ? idleMinutes[worker] : BAD;
    }

    public int load(int group) {
        return isWithin(group, 0, groupCount - 1) ? workIn(group) : BAD;
    }

    public int quiet() {
        if (workCount > 0 || dues.count > 0) return 0;
        for (int t = 0; t < taskCount; t++) {
            Task task = taskAt(t);
            if (isActive(task) && (task.isFiredFor(now) || dueMinute(task, 0) != NONE)) return 0;
        }
        return 1;
    }

    // ---- small helps ----

    private static boolean isWithin(int v, int least, int most) {
        return v >= least && v <= most;
    }

    private Task taskAt(int number) {
        return isWithin(number, 0, taskCount - 1) ? tasks[number] : null;
    }

    private static boolean isActive(Task task) {
        return task != null && task.isActive();
    }

    private static final class Task {
        final int number;
        final int kind;
        final int a;
        final int b;
        final int[] told = {1, 0, NONE, 0, 0, 0};
        final Calendar calendar = new Calendar();
        final Notes notes = new Notes();
        int act = 0;
        int x = 0;
        int y = 0;
        int state = ACTIVE;
        int nextDue;
        int restsTill = 0;
        int failures = 0;
        int began = 0;
        int working = 0;
        int waits = 0;
        int skipped = 0;
        // Two of them: a task can be fired for the next minute while it is fired for this one.
        int firedFor = NONE;
        int firedBefore = NONE;

        Task(int number, int kind, int a, int b) {
            this.number = number;
            this.kind = kind;
            this.a = a;
            this.b = b;
            this.nextDue = kind == PAUSE ? a : NONE;
        }

        boolean isActive() {
            return state == ACTIVE;
        }

        void fireFor(int minute) {
            if (firedFor == minute) return;
            firedBefore = firedFor;
            firedFor = minute;
        }

        boolean isFiredFor(int minute) {
            return firedFor == minute || firedBefore == minute;
        }

        int step() {
            return Math.max(b, 1);
        }

        int firstOfRate(int from) {
            if (a >= from) return a;
            int steps = (from - a + step() - 1) / step();
            return a + steps * step();
        }
    }

    /** The forms of a CALENDAR task, each part of a minute as the set of what all forms allow. */
    private static final class Calendar {
        static final int MINUTES_OF_DAY = 1440, MINUTES_OF_YEAR = 525600;
        static final int[] MONTH_STARTS = {0, 31, 59, 90, 120, 151, 181, 212, 243, 273, 304, 334, 365};
        private static final int[] LAST_A = {59, 23, 23, 6, 6, 31, 0, 5, 12};

        int forms = 0;
        private long minutes = -1L;
        private int hours = -1;
        private int weekdays = -1;
        private int days = -1;
        private int weeks = -1;
        private int months = -1;
        private boolean lastDayAlone = false;

        static boolean isForm(int form, int a, int b) {
            if (!isWithin(form, 0, LAST_A.length - 1)) return false;
            if (form != 6 && !isWithin(a, form == 5 || form >= 7 ? 1 : 0, LAST_A[form])) return false;
            if (form == 2) return isWithin(b, a, 23);
            return form != 4 && form != 7 || isWithin(b, 0, 6);
        }

        void add(int form, int a, int b) {
            forms++;
            switch (form) {
                case 0: minutes &= 1L << a; break;
                case 1: hours &= 1 << a; break;
                case 2: hours &= ring(a, b, 24); break;
                case 3: weekdays &= 1 << a; break;
                case 4: weekdays &= ring(a, b, 7); break;
                case 5: days &= 1 << (a - 1); break;
                case 6: lastDayAlone = true; break;
                case 7: weeks &= 1 << (a - 1); weekdays &= 1 << b; break;
                case 8: months &= 1 << (a - 1); break;
                default: break;
            }
        }

        /** The set of a to b, over the end of the ring if b is below a. */
        private static int ring(int a, int b, int size) {
            int set = 0;
            for (int v = 0; v < size; v++) {
                boolean inside = a <= b ? v >= a && v <= b : v >= a || v <= b;
                if (inside) set |= 1 << v;
            }
            return set;
        }

        boolean fits(int house) {
            return house >= 0 && minuteFits(house) && hourFits(house) && dayFits(house / MINUTES_OF_DAY);
        }

        private boolean minuteFits(int house) {
            return (minutes >> (house % 60) & 1L) != 0L;
        }

        private boolean hourFits(int house) {
            return (hours >> (house / 60 % 24) & 1) != 0;
        }

        private boolean dayFits(int day) {
            if ((weekdays >> (day % 7) & 1) == 0) return false;
            int month = monthOf(day);
            int place = day - MONTH_STARTS[month];
            if (lastDayAlone && day + 1 != MONTH_STARTS[month + 1]) return false;
            return (months >> month & 1) != 0 && (days >> place & 1) != 0 && (weeks >> (place / 7) & 1) != 0;
        }

        /** The first house's minute from one to another one that fits, or NONE. */
        int firstFit(int from, int last) {
            // Without this, forms that rule out each other would cost a look at every minute.
            if (minutes == 0L || hours == 0 || weekdays == 0) return NONE;
            int house = Math.max(from, 0);
            while (house <= last && house < MINUTES_OF_YEAR) {
                if (!dayFits(house / MINUTES_OF_DAY)) house = (house / MINUTES_OF_DAY + 1) * MINUTES_OF_DAY;
                else if (!hourFits(house)) house = (house / 60 + 1) * 60;
                else if (!minuteFits(house)) house++;
                else return house;
            }
            return NONE;
        }

        /** The month (from 0) of a day of the year (from 0). */
        static int monthOf(int day) {
            int month = 0;
            while (month < 11 && day >= MONTH_STARTS[month + 1]) month++;
            return month;
        }
    }

    /** What an AFTER task comes after. */
    private static final class Notes {
        final int[] other = new int[MOST_NOTES];
        private final int[] how = new int[MOST_NOTES];
        int count = 0;

        void add(int task, int fitting) {
            if (count >= MOST_NOTES) return;
            other[count] = task;
            how[count] = fitting;
            count++;
        }

        boolean fit(int task, boolean good) {
            for (int n = 0; n < count; n++) {
                if (other[n] == task && (how[n] == 2 || good == (how[n] == 0))) return true;
            }
            return false;
        }
    }

    private static final class Run {
        final int number;
        final Task task;
        final int time;
        final int dueMinute;
        final int began;
        final int end;
        final int worker;
        final int group;
        int ended = NONE;
        int outcome = AT_WORK;
        int failure = NONE;

        Run(int number, Task task, int dueMinute, int began, int worker) {
            this.number = number;
            this.task = task;
            this.time = task.began;
            this.dueMinute = dueMinute;
            this.began = began;
            this.end = began + task.told[LENGTH];
            this.worker = worker;
            this.group = task.told[GROUP];
        }
    }

    /** The dues that wait, in the order in which they came. */
    private static final class Dues {
        final Task[] task = new Task[MOST_DUES];
        final int[] minute = new int[MOST_DUES];
        final boolean[] late = new boolean[MOST_DUES];
        int count = 0;

        void add(Task of, int at) {
            if (count >= MOST_DUES) return;
            task[count] = of;
            minute[count] = at;
            late[count] = false;
            count++;
            of.waits++;
        }

        void remove(int i) {
            if (!isWithin(i, 0, count - 1)) return;
            Task of = task[i];
            if (of != null) of.waits--;
            for (int k = i + 1; k < count; k++) {
                task[k - 1] = task[k];
                minute[k - 1] = minute[k];
                late[k - 1] = late[k];
            }
            count--;
        }

        void removeAll(Task of) {
            int kept = 0;
            for (int k = 0; k < count; k++) {
                if (task[k] != of) {
                    task[kept] = task[k];
                    minute[kept] = minute[k];
                    late[kept] = late[k];
                    kept++;
                }
            }
            count = kept;
            of.waits = 0;
        }

        void clear() {
            for (int k = 0; k < count; k++) {
                Task of = task[k];
                if (of != null) of.waits = 0;
            }
            count = 0;
        }

        /** Whether one due begins before another one that came first. */
        boolean isAhead(int i, int other) {
            Task one = task[i];
            Task two = task[other];
            if (one == null || two == null) return false;
            if (one.told[RANK] != two.told[RANK]) return one.told[RANK] > two.told[RANK];
            if (minute[i] != minute[other]) return minute[i] < minute[other];
            return one.number < two.number;
        }
    }

    private static final class Book {
        final int[] task = new int[MOST_ROWS];
        final int[] minute = new int[MOST_ROWS];
        final int[] fate = new int[MOST_ROWS];
        int rows = 0;

        void add(int of, int at, int became) {
            if (rows < MOST_ROWS) {
                task[rows] = of;
                minute[rows] = at;
                fate[rows] = became;
            }
            rows++;
        }
    }

    private static final class Plans {
        private final int[] task = new int[MOST_PLANS];
        private final int[] time = new int[MOST_PLANS];
        private final int[] kind = new int[MOST_PLANS];
        int count = 0;

        private int placeOf(int ofTask, int ofTime) {
            for (int p = 0; p < count; p++) {
                if (task[p] == ofTask && time[p] == ofTime) return p;
            }
            return count;
        }

        /** Whether there was room for the plan. */
        boolean put(int ofTask, int ofTime, int failure) {
            int place = placeOf(ofTask, ofTime);
            if (place >= MOST_PLANS) return false;
            task[place] = ofTask;
            time[place] = ofTime;
            kind[place] = failure;
            count = Math.max(count, place + 1);
            return true;
        }

        int kindOf(int ofTask, int ofTime) {
            int place = placeOf(ofTask, ofTime);
            return place < count ? kind[place] : NONE;
        }
    }
}
