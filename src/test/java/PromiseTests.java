/** At least one test for each promise of the document; each prints the lines whose answer is not the one that is due. */
public final class PromiseTests {
    private static final int NONE = -1, BAD = -2, STATE = -3, FULL = -4;
    private static final int ONCE = 0, RATE = 1, PAUSE = 2, CALENDAR = 3, AFTER = 4;
    private static final int LENGTH = 0, RANK = 1, GROUP = 2, OVERLAP = 3, MISS = 4, FAILURE = 5;
    private static final int LEAST = Integer.MIN_VALUE, MOST = Integer.MAX_VALUE;
    private static int wrong = 0;

    private static void due(int want, int got) {
        if (want == got) return;
        wrong++;
        int line = new Throwable().getStackTrace()[1].getLineNumber();
        System.out.println("PromiseTests line " + line + ": answered " + got + ", due is " + want);
    }

    /** Row i of the book. */
    private static void row(CinemaClock c, int i, int task, int minute, int fate) {
        boolean right = c.book(i, 0) == task && c.book(i, 1) == minute && c.book(i, 2) == fate;
        if (right) return;
        wrong++;
        int line = new Throwable().getStackTrace()[1].getLineNumber();
        System.out.println("PromiseTests line " + line + ": row " + i + " is "
            + c.book(i, 0) + " " + c.book(i, 1) + " " + c.book(i, 2)
            + ", due is " + task + " " + minute + " " + fate);
    }

    public static void main(String[] args) {
        newObject();
        workers();
        group();
        groupsHoldBack();
        task();
        kinds();
        set();
        calendarForms();
        calendarBounds();
        calendarMinutes();
        body();
        acts();
        actsOnTasks();
        firing();
        after();
        afterChains();
        notes();
        plan();
        clearPlan();
        clock();
        clockWholeTime();
        jumpBounds();
        jumpMisses();
        jumpAndHigh();
        cancel();
        cancelInterrupts();
        stop();
        stopWithInterrupts();
        go();
        run();
        runLimit();
        of();
        ofOnce();
        rests();
        failureRules();
        pauseAndFailures();
        next();
        waiting();
        orderOfBeginning();
        missRules();
        pauseAndMisses();
        pauseAndFiring();
        skipping();
        crowding();
        book();
        count();
        cell();
        day();
        idle();
        load();
        quiet();
        System.out.println(wrong == 0 ? "PromiseTests: all answers are as due" : wrong + " answers are not as due");
        if (wrong != 0) System.exit(1);
    }

    // Promise 1
    private static void newObject() {
        CinemaClock c = new CinemaClock();
        int[] counts = {0, 0, 0, 0, 0, 0, 0, 0, 1, -1, 0};
        for (int what = 0; what < counts.length; what++) due(counts[what], c.count(what));
        due(0, c.idle(0));
        due(BAD, c.idle(1));
        due(1, c.quiet());
        due(BAD, c.of(0, 0));
        due(BAD, c.run(0, 0));
        due(BAD, c.load(0));
        due(NONE, c.waiting(0, 0));
        due(NONE, c.book(0, 0));
        for (int k = 0; k < 8; k++) due(0, c.cell(k));
        due(-1, CinemaClock.NONE);
        due(-2, CinemaClock.BAD);
        due(-3, CinemaClock.STATE);
        due(-4, CinemaClock.FULL);
    }

    // Promise 2
    private static void workers() {
        CinemaClock c = new CinemaClock();
        due(BAD, c.workers(0));
        due(BAD, c.workers(9));
        due(BAD, c.workers(LEAST));
        due(BAD, c.workers(MOST));
        due(1, c.count(8));
        due(0, c.clock(5));
        due(5, c.idle(0));
        due(8, c.workers(8));
        due(8, c.count(8));
        due(0, c.idle(0));
        due(0, c.idle(7));
        for (int t = 0; t < 9; t++) {
            due(t, c.task(ONCE, 6, 0));
            due(1, c.set(t, LENGTH, 3));
        }
        due(8, c.clock(7));
        for (int w = 0; w < 8; w++) due(w, c.run(w, 6));
        due(1, c.count(2));
        due(STATE, c.workers(2));
        due(BAD, c.workers(0));
        due(1, c.clock(10));
        due(0, c.run(8, 6));
        due(STATE, c.workers(1));
        due(0, c.clock(13));
        due(2, c.workers(2));
        due(BAD, c.idle(2));
        due(0, c.idle(1));
    }

    // Promise 3
    private static void group() {
        CinemaClock c = new CinemaClock();
        due(BAD, c.group(0));
        due(BAD, c.group(9));
        due(BAD, c.group(LEAST));
        for (int g = 0; g < 8; g++) due(g, c.group(g + 1));
        due(8, c.count(7));
        due(FULL, c.group(1));
        due(BAD, c.group(0));
        due(8, c.count(7));
    }

    // Promise 3 and step 4: a group's most, and the group in which a run began
    private static void groupsHoldBack() {
        CinemaClock c = new CinemaClock();
        c.workers(8);
        due(0, c.group(2));
        due(1, c.group(8));
        for (int t = 0; t < 4; t++) {
            c.task(ONCE, 0, 0);
            c.set(t, LENGTH, 10);
            c.set(t, GROUP, 0);
        }
        due(2, c.clock(1));
        due(2, c.load(0));
        due(2, c.count(2));
        due(0, c.set(0, GROUP, 1));
        due(0, c.clock(2));
        due(2, c.load(0));
        due(0, c.set(3, GROUP, 1));
        due(1, c.clock(3));
        due(3, c.run(2, 0));
        due(1, c.run(2, 7));
        due(0, c.run(0, 7));
        due(1, c.load(1));
        due(1, c.clock(11));
        due(2, c.run(3, 0));
        due(10, c.run(3, 2));
    }

    // Promise 4
    private static void task() {
        CinemaClock c = new CinemaClock();
        due(BAD, c.task(-1, 0, 1));
        due(BAD, c.task(5, 0, 1));
        for (int kind = ONCE; kind <= PAUSE; kind++) {
            due(BAD, c.task(kind, -1, 1));
            due(BAD, c.task(kind, 400001, 1));
            due(BAD, c.task(kind, MOST, 1));
        }
        for (int kind = RATE; kind <= PAUSE; kind++) {
            due(BAD, c.task(kind, 0, 0));
            due(BAD, c.task(kind, 0, -1));
            due(BAD, c.task(kind, 0, 100001));
        }
        due(0, c.count(0));
        due(0, c.clock(10));
        due(BAD, c.task(ONCE, 9, 0));
        due(0, c.task(ONCE, 10, LEAST));
        due(1, c.task(ONCE, 400000, MOST));
        due(2, c.task(RATE, 10, 1));
        due(3, c.task(RATE, 400000, 100000));
        due(4, c.task(PAUSE, 10, 100000));
        due(5, c.task(CALENDAR, LEAST, MOST));
        due(6, c.task(AFTER, -1, 100001));
        for (int t = 7; t < 60; t++) due(t, c.task(AFTER, 0, 0));
        due(60, c.count(0));
        due(FULL, c.task(ONCE, 10, 0));
        due(BAD, c.task(ONCE, 9, 0));
        due(60, c.count(0));
    }

    // Promise 4 and part 1: when each kind is due
    private static void kinds() {
        CinemaClock c = new CinemaClock();
        c.workers(8);
        due(0, c.task(ONCE, 3, 0));
        due(1, c.task(RATE, 2, 4));
        due(2, c.task(PAUSE, 1, 5));
        due(3, c.task(CALENDAR, 0, 0));
        due(1, c.calendar(3, 0, 7, 0));
        due(4, c.task(AFTER, 0, 0));
        due(1, c.set(2, LENGTH, 3));
        due(2, c.clock(3));
        due(2, c.run(0, 0));
        due(1, c.run(0, 2));
        due(1, c.run(1, 0));
        due(6, c.clock(16));
        due(0, c.run(2, 0));
        due(3, c.run(2, 2));
        due(1, c.run(3, 0));
        due(6, c.run(3, 2));
        due(3, c.run(4, 0));
        due(7, c.run(4, 2));
        due(2, c.run(5, 0));
        due(9, c.run(5, 2));
        due(1, c.run(6, 0));
        due(10, c.run(6, 2));
        due(1, c.run(7, 0));
        due(14, c.run(7, 2));
        due(0, c.of(4, 2));
        due(12, c.run(5, 3));
        due(17, c.next(2, 0));
    }

    // Promise 5
    private static void set() {
        CinemaClock c = new CinemaClock();
        due(BAD, c.set(0, LENGTH, 1));
        c.task(ONCE, 0, 0);
        due(BAD, c.set(-1, LENGTH, 1));
        due(BAD, c.set(1, LENGTH, 1));
        due(BAD, c.set(0, -1, 1));
        due(BAD, c.set(0, 6, 1));
        int[] first = {1, 0, NONE, 0, 0, 0};
        int[] least = {1, 0, NONE, 0, 0, 0};
        int[] most = {120, 9, 1, 2, 2, 2};
        c.group(1);
        c.group(1);
        for (int what = LENGTH; what <= FAILURE; what++) {
            due(BAD, c.set(0, what, least[what] - 1));
            due(BAD, c.set(0, what, most[what] + 1));
            due(BAD, c.set(0, what, LEAST));
            due(BAD, c.set(0, what, MOST));
            due(first[what], c.set(0, what, most[what]));
            due(most[what], c.set(0, what, least[what]));
            due(least[what], c.set(0, what, least[what]));
        }
        CinemaClock d = new CinemaClock();
        d.task(ONCE, 0, 0);
        due(BAD, d.set(0, GROUP, 0));
        due(NONE, d.set(0, GROUP, NONE));
    }

    private static CinemaClock withForm(int form, int a, int b) {
        CinemaClock c = new CinemaClock();
        due(0, c.task(CALENDAR, 0, 0));
        due(1, c.calendar(0, form, a, b));
        return c;
    }

    /** A form and minute 0 of the day: the days at which it fits. */
    private static void days(int form, int a, int b, int... days) {
        CinemaClock c = withForm(form, a, b);
        due(2, c.calendar(0, 0, 0, 0));
        due(3, c.calendar(0, 1, 0, 0));
        for (int i = 0; i < days.length; i++) due(days[i] == NONE ? NONE : days[i] * 1440, c.next(0, i));
    }

    // Promise 6 and part 1: the forms
    private static void calendarForms() {
        CinemaClock each = new CinemaClock();
        each.task(CALENDAR, 0, 0);
        due(0, each.next(0, 0));
        due(9, each.next(0, 9));
        CinemaClock minute = withForm(0, 30, -5);
        due(30, minute.next(0, 0));
        due(90, minute.next(0, 1));
        CinemaClock hour = withForm(1, 2, 99);
        due(120, hour.next(0, 0));
        due(129, hour.next(0, 9));
        CinemaClock hours = withForm(2, 22, 23);
        due(2, hours.calendar(0, 0, 59, 0));
        due(22 * 60 + 59, hours.next(0, 0));
        due(23 * 60 + 59, hours.next(0, 1));
        due(1440 + 22 * 60 + 59, hours.next(0, 2));
        days(3, 0, 0, 0, 7, 14);
        days(3, 2, 0, 2, 9, 16);
        days(3, 6, 0, 6, 13);
        days(4, 1, 3, 1, 2, 3, 8);
        days(4, 5, 1, 0, 1, 5, 6, 7, 8, 12);
        days(4, 4, 4, 4, 11, 18);
        days(4, 0, 6, 0, 1, 2, 3);
        days(5, 1, 0, 0, 31, 59, 90, 120, 151, 181, 212, 243, 273);
        days(5, 31, 0, 30, 89, 150, 211, 242, NONE);
        days(5, 29, 0, 28, 87, 118);
        days(6, -7, 99, 30, 58, 89, 119, 150, 180, 211, 242, 272, NONE);
        days(7, 1, 0, 0, 35, 63, 91);
        days(7, 5, 0, 28, 119);
        days(7, 2, 3, 10, 38, 66);
        days(8, 2, 0, 31, 32, 33);
        days(8, 9, 0, 243, 244);
        days(8, 12, 0, NONE);
    }

    // Promise 6: refusals
    private static void calendarBounds() {
        CinemaClock c = new CinemaClock();
        due(BAD, c.calendar(0, 0, 0, 0));
        c.task(CALENDAR, 0, 0);
        c.task(RATE, 0, 1);
        due(BAD, c.calendar(1, 0, 0, 0));
        due(BAD, c.calendar(-1, 0, 0, 0));
        due(BAD, c.calendar(2, 0, 0, 0));
        due(BAD, c.calendar(0, -1, 0, 0));
        due(BAD, c.calendar(0, 9, 0, 0));
        int[] least = {0, 0, 0, 0, 0, 1, 0, 1, 1};
        int[] most = {59, 23, 23, 6, 6, 31, 0, 5, 12};
        for (int form = 0; form <= 8; form++) {
            if (form == 6) continue;
            int b = form == 2 ? 23 : 0;
            due(BAD, c.calendar(0, form, least[form] - 1, b));
            due(BAD, c.calendar(0, form, most[form] + 1, b));
            due(BAD, c.calendar(0, form, LEAST, b));
            due(BAD, c.calendar(0, form, MOST, b));
            CinemaClock fits = new CinemaClock();
            fits.task(CALENDAR, 0, 0);
            due(1, fits.calendar(0, form, least[form], b));
            due(2, fits.calendar(0, form, most[form], b));
        }
        due(BAD, c.calendar(0, 2, 5, 4));
        due(BAD, c.calendar(0, 2, 5, 24));
        due(BAD, c.calendar(0, 2, -1, 4));
        due(BAD, c.calendar(0, 4, 0, -1));
        due(BAD, c.calendar(0, 4, 0, 7));
        due(BAD, c.calendar(0, 7, 1, -1));
        due(BAD, c.calendar(0, 7, 1, 7));
        due(1, c.calendar(0, 2, 5, 5));
        due(2, c.calendar(0, 7, 5, 6));
        due(3, c.calendar(0, 0, 3, LEAST));
        due(4, c.calendar(0, 6, LEAST, MOST));
        due(FULL, c.calendar(0, 6, 0, 0));
        due(BAD, c.calendar(0, 9, 0, 0));
    }

    // Promise 6: all forms have to fit, and runs come of it
    private static void calendarMinutes() {
        CinemaClock c = withForm(0, 10, 0);
        due(2, c.calendar(0, 2, 1, 3));
        due(0, c.clock(70));
        due(1, c.clock(71));
        due(70, c.run(0, 1));
        due(2, c.clock(1440));
        due(1440 + 70, c.next(0, 0));
        CinemaClock never = withForm(0, 10, 0);
        due(2, never.calendar(0, 0, 11, 0));
        due(NONE, never.next(0, 0));
        due(1, never.quiet());
        CinemaClock noDay = withForm(8, 2, 0);
        due(2, noDay.calendar(0, 5, 30, 0));
        due(NONE, noDay.next(0, 0));
        CinemaClock friday = withForm(3, 4, 0);
        due(2, friday.calendar(0, 5, 13, 0));
        due(3, friday.calendar(0, 2, 0, 0));
        due(4, friday.calendar(0, 0, 1, 0));
        // the days 12, 43, 71, 102, 132, ...: of these the Fridays (4 of 7)
        due(102 * 1440 + 1, friday.next(0, 0));
        due(193 * 1440 + 1, friday.next(0, 1));
        due(NONE, friday.next(0, 2));
    }

    // Promise 7
    private static void body() {
        CinemaClock c = new CinemaClock();
        due(BAD, c.body(0, 0, 0, 0));
        c.task(ONCE, 0, 0);
        due(BAD, c.body(-1, 0, 0, 0));
        due(BAD, c.body(0, -1, 0, 0));
        due(BAD, c.body(0, 7, 0, 0));
        due(0, c.body(0, 6, LEAST, MOST));
        due(6, c.of(0, 7));
        due(6, c.body(0, 1, 5, 0));
        due(1, c.body(0, 1, 7, 1));
        due(1, c.clock(2));
        due(0, c.cell(0));
        due(7, c.cell(1));
    }

    // Promise 7 and part 1: the acts over cells, as they are told at the end
    private static void acts() {
        CinemaClock c = new CinemaClock();
        c.task(RATE, 0, 1);
        c.body(0, 1, MOST, 3 + 8);
        due(2, c.clock(2));
        due(MOST, c.cell(3));
        due(1, c.clock(3));
        due(-2, c.cell(3));
        due(1, c.body(0, 2, 10, -5));
        due(1, c.clock(4));
        due(-18, c.cell(3));
        due(1, c.clock(5));
        due(-177, c.cell(3));
        due(2, c.body(0, 3, 7 + 16, 3));
        due(0, c.set(0, FAILURE, 1));
        due(1, c.clock(6));
        due(2, c.run(4, 4));
        due(7, c.run(4, 5));
        due(1, c.of(0, 5));
        due(3, c.body(0, 3, -1, 2));
        due(1, c.clock(7));
        due(1, c.run(5, 4));
        due(NONE, c.run(5, 5));
        due(0, c.of(0, 5));
        due(3, c.body(0, 4, 0, 7));
        due(1, c.clock(8));
        due(7, c.cell(7));
        due(60, c.jump(60));
        due(1, c.clock(9));
        due(8, c.cell(7));
        due(4, c.body(0, 0, 1, 7));
        due(1, c.clock(10));
        due(8, c.cell(7));
        CinemaClock odd = new CinemaClock();
        odd.task(RATE, 0, 1);
        odd.set(0, FAILURE, 1);
        odd.body(0, 1, -2, 0);
        due(2, odd.clock(2));
        odd.body(0, 3, 5, 0);
        due(1, odd.clock(3));
        due(1, odd.run(1, 4));
        odd.body(0, 1, -1, 0);
        due(1, odd.clock(4));
        odd.body(0, 3, 5, 0);
        due(1, odd.clock(5));
        due(2, odd.run(3, 4));
        due(5, odd.run(3, 5));
    }

    // Part 1: act 5
    private static void actsOnTasks() {
        CinemaClock c = new CinemaClock();
        c.workers(3);
        due(0, c.task(RATE, 0, 5));
        due(1, c.task(RATE, 0, 3));
        c.body(0, 5, 1, 0);
        c.set(0, LENGTH, 2);
        c.set(0, FAILURE, 1);
        c.set(1, LENGTH, 4);
        c.body(1, 1, 1, 0);
        due(2, c.clock(3));
        due(1, c.run(0, 4));
        due(3, c.of(1, 0));
        due(NONE, c.run(1, 3));
        due(STATE, c.cancel(1, 0));
        due(1, c.clock(8));
        due(1, c.run(1, 4));
        due(4, c.run(1, 3));
        due(1, c.cell(0));
        due(1, c.of(1, 2));
        due(2, c.run(2, 4));
        due(14, c.run(2, 5));
        for (int none : new int[] {-1, 2, MOST, LEAST}) {
            CinemaClock d = new CinemaClock();
            d.task(ONCE, 0, 0);
            d.body(0, none < 0 ? 5 : 6, none, 0);
            due(1, d.clock(2));
            due(14, d.run(0, 5));
            due(4, d.of(0, 0));
        }
        CinemaClock self = new CinemaClock();
        self.task(PAUSE, 0, 5);
        self.body(0, 5, 0, 0);
        due(1, self.clock(20));
        due(1, self.run(0, 4));
        due(3, self.of(0, 0));
        due(NONE, self.next(0, 0));
        // dues of a task that is cancelled by a body go, unwritten
        CinemaClock go = new CinemaClock();
        go.task(ONCE, 0, 0);
        go.body(0, 5, 1, 0);
        go.task(ONCE, 0, 0);
        due(1, go.clock(1));
        due(1, go.count(2));
        due(0, go.clock(2));
        due(0, go.count(2));
        due(0, go.count(6));
        // of an inactive task a failure counts, but no rule is asked
        CinemaClock late = new CinemaClock();
        late.task(ONCE, 0, 0);
        late.body(0, 6, 9, 0);
        due(1, late.clock(1));
        due(1, late.cancel(0, 0));
        due(0, late.clock(2));
        due(1, late.of(0, 5));
        due(3, late.of(0, 0));
    }

    // Part 1: act 6
    private static void firing() {
        CinemaClock c = new CinemaClock();
        c.workers(4);
        due(0, c.task(ONCE, 0, 0));
        due(1, c.task(ONCE, 0, 0));
        due(2, c.task(ONCE, 2, 0));
        due(3, c.task(AFTER, 0, 0));
        c.body(0, 6, 2, 0);
        c.body(1, 6, 2, 0);
        c.set(2, OVERLAP, 2);
        // both fire task 2 for minute 2: once, besides its own due
        due(2, c.clock(2));
        due(0, c.of(2, 4));
        due(2, c.clock(3));
        due(2, c.of(2, 2));
        due(2, c.run(3, 1));
        due(0, c.clock(10));
        // a task that fires itself is due each second minute
        CinemaClock self = new CinemaClock();
        self.task(AFTER, 0, 0);
        self.task(ONCE, 0, 0);
        self.body(0, 6, 0, 0);
        self.body(1, 6, 0, 0);
        due(1, self.clock(1));
        due(0, self.clock(2));
        due(0, self.quiet());
        due(NONE, self.next(0, 0));
        due(4, self.clock(10));
        due(2, self.run(1, 1));
        due(4, self.run(2, 1));
        // fired for this minute and the next one
        CinemaClock two = new CinemaClock();
        two.workers(4);
        two.task(RATE, 0, 1);
        two.task(AFTER, 0, 0);
        two.body(0, 6, 1, 0);
        due(2, two.clock(2));
        due(2, two.clock(3));
        due(2, two.clock(4));
        due(2, two.of(1, 2));
        // fired twice for the next minute, while it is fired for this one
        CinemaClock thrice = new CinemaClock();
        thrice.workers(8);
        for (int t = 0; t < 2; t++) {
            thrice.task(RATE, t, 1);
            thrice.body(t, 6, 2, 0);
        }
        thrice.task(AFTER, 0, 0);
        due(1, thrice.clock(1));
        due(2, thrice.clock(2));
        due(3, thrice.clock(3));
        due(3, thrice.clock(4));
        due(3, thrice.clock(5));
        due(3, thrice.of(2, 2));
        // a fired task that is cancelled is due no more
        CinemaClock gone = new CinemaClock();
        gone.task(ONCE, 0, 0);
        gone.task(AFTER, 0, 0);
        gone.body(0, 6, 1, 0);
        due(1, gone.clock(2));
        due(0, gone.quiet());
        due(1, gone.cancel(1, 0));
        due(1, gone.quiet());
        due(0, gone.clock(5));
    }

    // Promise 8
    private static void after() {
        CinemaClock c = new CinemaClock();
        due(BAD, c.after(0, 1, 0));
        due(0, c.task(ONCE, 0, 0));
        due(1, c.task(AFTER, 0, 0));
        due(BAD, c.after(1, 2, 0));
        due(BAD, c.after(1, -1, 0));
        due(BAD, c.after(2, 1, 0));
        due(BAD, c.after(-1, 1, 0));
        due(BAD, c.after(0, 1, 0));
        due(BAD, c.after(1, 1, 0));
        due(BAD, c.after(1, 0, -1));
        due(BAD, c.after(1, 0, 3));
        for (int n = 1; n <= 4; n++) due(n, c.after(1, 0, n % 3));
        due(FULL, c.after(1, 0, 0));
        due(BAD, c.after(1, 0, 3));
        due(2, c.task(AFTER, 0, 0));
        due(1, c.after(2, 1, 0));
        due(STATE, c.after(1, 2, 0));
        due(BAD, c.after(1, 2, 3));
    }

    // Promise 8: by notes of notes
    private static void afterChains() {
        CinemaClock c = new CinemaClock();
        for (int t = 0; t < 60; t++) c.task(AFTER, 0, 0);
        for (int t = 0; t < 59; t++) due(1, c.after(t, t + 1, 2));
        due(STATE, c.after(59, 0, 0));
        due(STATE, c.after(59, 58, 0));
        due(STATE, c.after(30, 10, 1));
        due(2, c.after(10, 30, 1));
        due(3, c.after(10, 40, 1));
        due(STATE, c.after(40, 10, 1));
        due(1, c.cancel(20, 0));
        for (int again = 0; again < 3; again++) due(STATE, c.after(59, 0, 0));
        due(2, c.after(0, 59, 0));
    }

    // Part 2, step 1: notes
    private static void notes() {
        CinemaClock c = new CinemaClock();
        c.workers(8);
        due(0, c.task(RATE, 0, 10));
        for (int how = 0; how < 3; how++) {
            due(1 + how, c.task(AFTER, 0, 0));
            due(1, c.after(1 + how, 0, how));
        }
        due(4, c.task(AFTER, 0, 0));
        due(1, c.after(4, 0, 0));
        due(2, c.after(4, 0, 2));
        due(5, c.task(AFTER, 0, 0));
        due(1, c.after(5, 0, 2));
        due(1, c.cancel(5, 0));
        c.set(0, FAILURE, 1);
        due(1, c.plan(0, 2, 4));
        due(4, c.clock(2));
        due(1, c.run(1, 0));
        due(1, c.run(1, 1));
        due(1, c.run(1, 2));
        due(3, c.run(2, 0));
        due(4, c.run(3, 0));
        due(4, c.clock(12));
        due(2, c.run(5, 0));
        due(3, c.run(6, 0));
        due(4, c.run(7, 0));
        due(1, c.of(1, 2));
        due(0, c.of(5, 2));
        // notes of a task that is not active any more come, too
        CinemaClock d = new CinemaClock();
        d.task(ONCE, 0, 0);
        d.task(AFTER, 0, 0);
        d.after(1, 0, 0);
        due(1, d.clock(1));
        due(1, d.cancel(0, 0));
        due(1, d.clock(3));
        due(1, d.run(1, 0));
        // an AFTER task may stand before the one it comes after
        CinemaClock before = new CinemaClock();
        before.task(AFTER, 0, 0);
        before.task(ONCE, 0, 0);
        before.after(0, 1, 0);
        due(2, before.clock(2));
        due(0, before.run(1, 0));
        // a chain goes on at each end
        CinemaClock e = new CinemaClock();
        e.task(ONCE, 0, 0);
        e.task(AFTER, 0, 0);
        e.task(AFTER, 0, 0);
        e.after(1, 0, 0);
        e.after(2, 1, 0);
        due(3, e.clock(5));
        due(2, e.run(2, 0));
        due(2, e.run(2, 2));
    }

    // Promise 9
    private static void plan() {
        CinemaClock c = new CinemaClock();
        due(BAD, c.plan(0, 1, 0));
        c.task(RATE, 0, 1);
        due(BAD, c.plan(-1, 1, 0));
        due(BAD, c.plan(1, 1, 0));
        due(BAD, c.plan(0, 0, 0));
        due(BAD, c.plan(0, 51, 0));
        due(BAD, c.plan(0, 1, -1));
        due(BAD, c.plan(0, 1, 16));
        c.set(0, FAILURE, 1);
        c.body(0, 1, 1, 0);
        due(1, c.plan(0, 2, 0));
        due(2, c.plan(0, 50, 15));
        due(2, c.plan(0, 2, 3));
        due(51, c.clock(51));
        due(NONE, c.run(0, 5));
        due(2, c.run(1, 4));
        due(3, c.run(1, 5));
        due(15, c.run(49, 5));
        due(48, c.cell(0));
        CinemaClock full = new CinemaClock();
        full.task(RATE, 0, 1);
        full.task(RATE, 0, 1);
        for (int n = 1; n <= 40; n++) due(n, full.plan(n % 2, n, 1));
        due(FULL, full.plan(1, 2, 1));
        due(BAD, full.plan(1, 51, 1));
        due(40, full.plan(1, 1, 9));
        due(40, full.plan(0, 40, 9));
        // by the task's own runs, not by those of all
        CinemaClock own = new CinemaClock();
        own.workers(2);
        own.task(RATE, 0, 2);
        own.task(RATE, 0, 2);
        own.plan(1, 2, 5);
        due(4, own.clock(4));
        due(1, own.run(2, 4));
        due(5, own.run(3, 5));
        // what is planned at the end counts, also for a run that is at work
        CinemaClock late = new CinemaClock();
        late.task(ONCE, 0, 0);
        due(1, late.clock(1));
        late.plan(0, 1, 6);
        due(0, late.clock(2));
        due(6, late.run(0, 5));
    }

    // Promise 10
    private static void clearPlan() {
        CinemaClock c = new CinemaClock();
        due(0, c.clearPlan());
        c.task(RATE, 0, 1);
        c.plan(0, 1, 5);
        c.plan(0, 2, 5);
        due(2, c.clearPlan());
        due(0, c.clearPlan());
        due(3, c.clock(3));
        due(1, c.run(0, 4));
        due(1, c.run(1, 4));
        due(1, c.plan(0, 9, 5));
    }

    // Promise 11
    private static void clock() {
        CinemaClock c = new CinemaClock();
        due(BAD, c.clock(-1));
        due(BAD, c.clock(5001));
        due(BAD, c.clock(MOST));
        due(BAD, c.clock(LEAST));
        c.task(RATE, 2, 3);
        due(0, c.clock(0));
        due(0, c.count(4));
        due(0, c.clock(2));
        due(1, c.clock(3));
        due(3, c.count(4));
        due(BAD, c.clock(2));
        due(0, c.clock(3));
        due(BAD, c.clock(5004));
        due(1666, c.clock(5003));
        due(5003, c.count(4));
    }

    // Promise 11 and promise 18: up to the last minute
    private static void clockWholeTime() {
        CinemaClock c = new CinemaClock();
        c.task(CALENDAR, 0, 0);
        c.calendar(0, 6, 0, 0);
        c.calendar(0, 2, 12, 13);
        c.calendar(0, 0, 0, 0);
        c.task(RATE, 399990, 10);
        c.task(CALENDAR, 0, 0);
        c.calendar(2, 0, 40, 0);
        c.calendar(2, 8, 10, 0);
        due(399990, c.next(1, 0));
        due(400000, c.next(1, 1));
        due(NONE, c.next(1, 2));
        for (int m = 5000; m < 400000; m += 5000) c.clock(m);
        due(395000, c.count(4));
        due(395020, c.next(2, 0));
        due(395080, c.next(2, 1));
        due(BAD, c.clock(400001));
        c.clock(399999);
        due(400000, c.next(2, 0));
        due(NONE, c.next(2, 1));
        due(1, c.jump(1));
        due(399999, c.next(2, 0));
        due(0, c.jump(-1));
        due(0, c.clock(400000));
        due(400000, c.next(1, 0));
        due(0, c.quiet());
        due(BAD, c.clock(400001));
        due(0, c.clock(400000));
        due(18, c.of(0, 2));
        due(1, c.of(1, 2));
    }

    // Promise 12: refusals
    private static void jumpBounds() {
        CinemaClock c = new CinemaClock();
        due(BAD, c.jump(0));
        due(BAD, c.jump(721));
        due(BAD, c.jump(-721));
        due(BAD, c.jump(LEAST));
        due(BAD, c.jump(MOST));
        due(BAD, c.jump(-1));
        due(720, c.jump(720));
        due(1440, c.jump(720));
        due(BAD, c.jump(1));
        due(1440, c.count(5));
        due(720, c.jump(-720));
        due(0, c.jump(-720));
        due(1439, c.count(9));
        c.clock(700);
        due(BAD, c.jump(-701));
        due(-700, c.jump(-700));
        due(BAD, c.jump(-1));
        c.clock(3000);
        due(-1420, c.jump(-720));
        due(BAD, c.jump(-21));
        due(-1440, c.jump(-20));
        due(-1439, c.jump(1));
    }

    // Promise 12 and part 3: what is jumped over
    private static void jumpMisses() {
        CinemaClock c = new CinemaClock();
        for (int rule = 0; rule < 3; rule++) {
            due(rule, c.task(CALENDAR, 0, 0));
            due(1, c.calendar(rule, 0, 30, 0));
            due(0, c.set(rule, MISS, rule));
        }
        due(3, c.task(CALENDAR, 0, 0));
        due(1, c.cancel(3, 0));
        due(4, c.task(RATE, 40, 1000));
        due(0, c.clock(30));
        // 30, 90 and 150 are among 30 .. 150, 151 is the first behind them
        due(121, c.jump(121));
        due(150, c.count(9));
        due(3, c.count(6));
        row(c, 0, 0, 30, 3);
        row(c, 1, 0, 90, 3);
        row(c, 2, 0, 150, 3);
        due(4, c.count(2));
        due(1, c.waiting(0, 0));
        due(30, c.waiting(0, 1));
        for (int i = 1; i < 4; i++) {
            due(2, c.waiting(i, 0));
            due(30, c.waiting(i, 1));
        }
        due(0, c.of(0, 4));
        due(210 - 121, c.next(0, 0));
        // nothing to miss: nothing comes
        due(171, c.jump(50));
        due(3, c.count(6));
        due(4, c.count(2));
        // a jump makes no RATE task due
        due(40, c.next(4, 0));
    }

    // Part 3: HIGH keeps a minute from being due twice
    private static void jumpAndHigh() {
        CinemaClock c = new CinemaClock();
        c.task(CALENDAR, 0, 0);
        c.calendar(0, 0, 30, 0);
        due(1, c.clock(40));
        due(39, c.count(9));
        due(-20, c.jump(-20));
        due(39, c.count(9));
        due(90 + 20, c.next(0, 0));
        due(0, c.clock(60));
        due(39, c.count(9));
        due(0, c.clock(61));
        due(40, c.count(9));
        // house 41 at 61; over 41 .. 100 and back: 90 is missed once
        due(40, c.jump(60));
        row(c, 0, 0, 90, 3);
        due(100, c.count(9));
        due(-20, c.jump(-60));
        due(40, c.jump(60));
        due(1, c.count(6));
        due(100, c.count(9));
        due(150 - 40, c.next(0, 0));
        due(1, c.clock(111));
        // the minute HIGH itself is not due again
        CinemaClock same = new CinemaClock();
        same.task(CALENDAR, 0, 0);
        due(5, same.clock(5));
        due(-3, same.jump(-3));
        due(4, same.count(9));
        due(8, same.next(0, 0));
        due(0, same.clock(8));
        due(1, same.clock(9));
        due(4, same.run(4, 1));
        due(8, same.run(5, 1));
        // a jump by one minute, and by the most
        due(-2, same.jump(1));
        due(1, same.count(6));
        row(same, 0, 0, 6, 3);
        due(718, same.jump(720));
        due(721, same.count(6));
        row(same, 299, 0, 305, 3);
        due(726, same.count(9));
        // part of what is jumped over lies above HIGH
        CinemaClock part = new CinemaClock();
        part.task(CALENDAR, 0, 0);
        part.set(0, MISS, 2);
        part.set(0, LENGTH, 120);
        due(1, part.clock(10));
        due(0, part.of(0, 4));
        due(9, part.of(0, 3));
        part.set(0, OVERLAP, 1);
        due(-5, part.jump(-5));
        due(3, part.jump(8));
        due(3, part.of(0, 4));
        due(12, part.count(9));
    }

    // Promise 13
    private static void cancel() {
        CinemaClock c = new CinemaClock();
        due(BAD, c.cancel(0, 0));
        c.task(RATE, 0, 5);
        due(BAD, c.cancel(-1, 0));
        due(BAD, c.cancel(1, 0));
        due(BAD, c.cancel(0, -1));
        due(BAD, c.cancel(0, 2));
        c.set(0, LENGTH, 4);
        c.set(0, OVERLAP, 1);
        c.body(0, 1, 1, 0);
        due(1, c.clock(2));
        due(1, c.cancel(0, 0));
        due(3, c.of(0, 0));
        due(0, c.run(0, 4));
        due(BAD, c.cancel(0, 2));
        due(STATE, c.cancel(0, 0));
        due(STATE, c.cancel(0, 1));
        due(0, c.clock(20));
        due(1, c.run(0, 4));
        due(4, c.run(0, 3));
        due(1, c.cell(0));
        due(20, c.next(0, 0));
        due(1, c.quiet());
        // its dues go and are not in the book
        CinemaClock d = new CinemaClock();
        d.task(RATE, 0, 1);
        d.task(RATE, 0, 1);
        d.set(0, LENGTH, 50);
        d.set(0, OVERLAP, 1);
        d.set(1, LENGTH, 50);
        d.set(1, OVERLAP, 1);
        due(1, d.clock(3));
        due(5, d.count(2));
        due(1, d.cancel(1, 0));
        due(2, d.count(2));
        due(0, d.waiting(0, 0));
        due(1, d.waiting(0, 1));
        due(0, d.waiting(1, 0));
        due(2, d.waiting(1, 1));
        due(0, d.of(1, 4));
        due(2, d.of(0, 4));
        due(0, d.count(6));
        // a stopped task can't be cancelled
        CinemaClock e = new CinemaClock();
        e.task(ONCE, 0, 0);
        e.body(0, 5, 9, 0);
        due(1, e.clock(2));
        due(4, e.of(0, 0));
        due(STATE, e.cancel(0, 0));
    }

    // Promise 13 and part 3: interrupted runs
    private static void cancelInterrupts() {
        CinemaClock c = new CinemaClock();
        c.workers(4);
        due(0, c.task(PAUSE, 0, 5));
        due(1, c.task(AFTER, 0, 0));
        due(2, c.task(AFTER, 0, 0));
        due(3, c.task(AFTER, 0, 0));
        due(1, c.after(1, 0, 0));
        due(1, c.after(2, 0, 1));
        due(1, c.after(3, 0, 2));
        c.set(0, LENGTH, 5);
        c.body(0, 1, 1, 0);
        due(1, c.clock(3));
        due(1, c.cancel(0, 1));
        due(3, c.run(0, 4));
        due(3, c.run(0, 3));
        due(NONE, c.run(0, 5));
        due(0, c.count(3));
        due(0, c.of(1, 4));
        due(1, c.of(2, 4));
        due(1, c.of(3, 4));
        due(3, c.waiting(0, 1));
        due(0, c.of(0, 5));
        due(NONE, c.next(0, 0));
        due(2, c.clock(4));
        due(0, c.cell(0));
        due(0, c.run(1, 6));
        // all its runs, in their order, and no other's
        CinemaClock d = new CinemaClock();
        d.workers(4);
        d.task(RATE, 0, 1);
        d.task(ONCE, 0, 0);
        d.task(AFTER, 0, 0);
        d.after(2, 0, 1);
        d.set(0, OVERLAP, 2);
        d.set(0, LENGTH, 9);
        d.set(1, LENGTH, 9);
        due(4, d.clock(4));
        due(1, d.cancel(0, 1));
        due(1, d.count(3));
        due(0, d.run(1, 4));
        due(3, d.run(0, 4));
        due(3, d.run(2, 4));
        due(3, d.run(3, 4));
        due(3, d.of(2, 4));
    }

    // Promise 14
    private static void stop() {
        CinemaClock c = new CinemaClock();
        due(BAD, c.stop(-1));
        due(BAD, c.stop(2));
        c.task(RATE, 0, 4);
        c.task(ONCE, 1, 0);
        c.task(ONCE, 20, 0);
        c.set(0, LENGTH, 3);
        c.set(1, LENGTH, 3);
        due(1, c.clock(2));
        due(1, c.stop(0));
        due(1, c.count(10));
        due(STATE, c.stop(0));
        due(STATE, c.stop(1));
        due(BAD, c.stop(2));
        due(1, c.count(3));
        due(1, c.count(2));
        // what waits begins as ever, what comes goes
        due(1, c.clock(10));
        due(1, c.run(1, 0));
        due(3, c.run(1, 2));
        due(2, c.count(6));
        row(c, 0, 0, 4, 4);
        row(c, 1, 0, 8, 4);
        due(1, c.run(0, 4));
        // a stopped house takes no due of notes, fires and jumps, either
        CinemaClock d = new CinemaClock();
        d.task(ONCE, 0, 0);
        d.task(AFTER, 0, 0);
        d.task(CALENDAR, 0, 0);
        d.task(AFTER, 0, 0);
        d.calendar(2, 0, 30, 0);
        d.set(2, MISS, 1);
        d.after(1, 0, 0);
        d.body(0, 6, 3, 0);
        due(1, d.clock(1));
        due(1, d.stop(0));
        due(60, d.jump(60));
        row(d, 0, 2, 1, 4);
        due(0, d.clock(5));
        row(d, 1, 1, 1, 4);
        row(d, 2, 3, 2, 4);
        due(3, d.count(6));
    }

    // Promise 14 and part 3: stop(1)
    private static void stopWithInterrupts() {
        CinemaClock c = new CinemaClock();
        c.workers(2);
        due(0, c.task(PAUSE, 0, 7));
        due(1, c.task(PAUSE, 1, 9));
        due(2, c.task(RATE, 1, 1));
        due(3, c.task(AFTER, 0, 0));
        due(4, c.task(PAUSE, 0, 11));
        due(1, c.after(3, 0, 1));
        due(2, c.after(3, 4, 2));
        c.set(0, LENGTH, 20);
        c.set(4, LENGTH, 20);
        c.set(1, LENGTH, 30);
        c.set(2, LENGTH, 30);
        c.set(2, OVERLAP, 1);
        due(2, c.clock(3));
        due(3, c.count(2));
        due(1, c.cancel(4, 0));
        due(1, c.stop(1));
        due(0, c.count(2));
        due(0, c.count(3));
        due(0, c.of(1, 4));
        due(0, c.of(2, 4));
        due(3, c.run(0, 4));
        due(3, c.run(0, 3));
        due(3, c.run(1, 4));
        row(c, 0, 1, 1, 4);
        row(c, 1, 2, 1, 4);
        row(c, 2, 2, 2, 4);
        row(c, 3, 3, 3, 4);
        row(c, 4, 3, 3, 4);
        due(5, c.count(6));
        due(10, c.next(0, 0));
        due(12, c.next(1, 0));
        due(NONE, c.next(4, 0));
        // a PAUSE task comes again and again while the house is stopped
        due(0, c.clock(11));
        due(17, c.next(0, 0));
        due(1, c.go());
        due(1, c.clock(12));
        due(2, c.run(2, 0));
        // eight runs, and the dues of a task
        CinemaClock d = new CinemaClock();
        d.workers(8);
        d.task(RATE, 0, 1);
        d.set(0, OVERLAP, 2);
        d.set(0, LENGTH, 100);
        due(8, d.clock(11));
        due(3, d.of(0, 4));
        due(1, d.stop(1));
        due(0, d.of(0, 4));
        due(0, d.count(3));
        for (int i = 0; i < 8; i++) due(3, d.run(i, 4));
        due(3, d.count(6));
        due(1, d.go());
        due(8, d.workers(8));
        due(1, d.clock(12));
        due(0, d.of(0, 4));
    }

    // Promise 15
    private static void go() {
        CinemaClock c = new CinemaClock();
        due(STATE, c.go());
        c.task(RATE, 0, 1);
        due(1, c.stop(0));
        due(0, c.clock(3));
        due(1, c.go());
        due(0, c.count(10));
        due(STATE, c.go());
        due(2, c.clock(5));
        due(1, c.stop(1));
        due(1, c.go());
    }

    // Promise 16
    private static void run() {
        CinemaClock c = new CinemaClock();
        c.workers(2);
        c.group(3);
        c.task(RATE, 0, 100);
        c.task(ONCE, 1, 0);
        c.task(ONCE, 1, 0);
        c.set(0, LENGTH, 5);
        c.set(1, LENGTH, 3);
        c.set(1, GROUP, 0);
        c.set(2, LENGTH, 120);
        c.body(1, 5, 7, 0);
        due(3, c.clock(10));
        int[][] rows = {{0, 0, 0, 5, 1, NONE, 0, NONE}, {1, 1, 1, 4, 2, 14, 1, 0}, {2, 1, 4, NONE, 0, NONE, 1, NONE}};
        for (int i = 0; i < 3; i++) {
            for (int what = 0; what < 8; what++) due(rows[i][what], c.run(i, what));
        }
        due(BAD, c.run(-1, 0));
        due(BAD, c.run(3, 0));
        due(BAD, c.run(0, -1));
        due(BAD, c.run(0, 8));
        due(BAD, c.run(LEAST, LEAST));
        // a length that is told while a run is at work is of no matter to it
        c.set(2, LENGTH, 1);
        due(0, c.clock(100));
        due(NONE, c.run(2, 3));
        due(1, c.clock(130));
        due(124, c.run(2, 3));
    }

    // Promise 16 and step 4: 2000 runs at most
    private static void runLimit() {
        CinemaClock c = new CinemaClock();
        c.task(RATE, 0, 1);
        due(1999, c.clock(1999));
        due(1, c.clock(2010));
        due(2000, c.count(1));
        due(1999, c.run(1999, 2));
        due(2000, c.run(1999, 3));
        due(BAD, c.run(2000, 0));
        due(2, c.count(2));
        due(2008, c.waiting(0, 1));
        due(8, c.count(6));
        due(2000, c.of(0, 2));
        due(1, c.cancel(0, 1));
        due(0, c.count(2));
    }

    // Promise 17
    private static void of() {
        CinemaClock c = new CinemaClock();
        due(BAD, c.of(0, 0));
        for (int kind = 0; kind < 5; kind++) {
            due(kind, c.task(kind, 3, 3));
            due(kind, c.of(kind, 1));
            for (int what = 2; what < 6; what++) due(0, c.of(kind, what));
            due(0, c.of(kind, 0));
            due(NONE, c.of(kind, 6));
            due(0, c.of(kind, 7));
        }
        due(BAD, c.of(-1, 0));
        due(BAD, c.of(5, 0));
        due(BAD, c.of(0, -1));
        due(BAD, c.of(0, 8));
        for (int t = 2; t < 5; t++) c.cancel(t, 0);
        c.set(1, LENGTH, 8);
        due(1, c.clock(4));
        due(1, c.of(0, 2));
        due(1, c.of(1, 4));
        due(0, c.of(1, 3));
        due(1, c.clock(6));
        due(1, c.of(1, 0));
        due(0, c.clock(10));
        due(2, c.of(1, 3));
        due(0, c.of(1, 4));
        due(1, c.cancel(1, 0));
        due(3, c.of(1, 0));
        due(2, c.of(0, 0));
    }

    // Promise 17: a ONCE task that is over
    private static void ofOnce() {
        CinemaClock c = new CinemaClock();
        c.task(ONCE, 2, 0);
        c.task(ONCE, 2, 0);
        due(0, c.clock(2));
        due(0, c.of(0, 0));
        due(1, c.clock(3));
        due(1, c.of(0, 0));
        due(0, c.of(1, 0));
        due(1, c.of(1, 4));
        due(1, c.clock(4));
        due(2, c.of(0, 0));
        due(1, c.of(1, 0));
        due(0, c.clock(5));
        due(2, c.of(1, 0));
        // a ONCE task that is fired is over till its due comes
        CinemaClock d = new CinemaClock();
        d.task(ONCE, 0, 0);
        d.task(ONCE, 2, 0);
        d.body(1, 6, 0, 0);
        due(2, d.clock(3));
        due(2, d.of(0, 0));
        due(0, d.clock(4));
        due(0, d.quiet());
        due(2, d.of(0, 0));
        due(1, d.clock(5));
        due(1, d.of(0, 0));
        due(0, d.clock(6));
        due(2, d.of(0, 0));
    }

    // Part 2, step 1, rule 2 for failures: rests, twice as long each time, 64 at most
    private static void rests() {
        CinemaClock c = new CinemaClock();
        c.task(RATE, 0, 1);
        c.body(0, 5, -1, 0);
        c.set(0, FAILURE, 2);
        due(1, c.clock(2));
        due(NONE, c.of(0, 6));
        row(c, 0, 0, 1, 5);
        due(1, c.clock(3));
        due(0, c.clock(4));
        due(5, c.of(0, 6));
        due(2, c.of(0, 5));
        due(0, c.clock(5));
        due(NONE, c.of(0, 6));
        due(3, c.count(6));
        row(c, 1, 0, 3, 5);
        row(c, 2, 0, 4, 5);
        int[] begins = {0, 2, 5, 10, 19, 36, 69, 134, 199, 264};
        due(8, c.clock(265));
        for (int i = 0; i < begins.length; i++) due(begins[i], c.run(i, 2));
        due(0, c.clock(270));
        due(329, c.of(0, 6));
        due(10, c.of(0, 5));
        // good: the row of failures is over
        due(5, c.body(0, 0, 0, 0));
        due(2, c.clock(331));
        due(0, c.of(0, 5));
        // dues that wait go on in a rest
        CinemaClock d = new CinemaClock();
        d.task(RATE, 0, 1);
        d.set(0, OVERLAP, 1);
        d.set(0, LENGTH, 3);
        d.set(0, FAILURE, 2);
        d.plan(0, 1, 1);
        due(2, d.clock(4));
        due(1, d.run(1, 1));
        due(3, d.run(1, 2));
        row(d, 0, 0, 3, 5);
        due(1, d.count(6));
    }

    // Part 2, step 1: the other rules for failures
    private static void failureRules() {
        CinemaClock c = new CinemaClock();
        c.task(RATE, 0, 1);
        c.set(0, OVERLAP, 1);
        c.set(0, LENGTH, 3);
        due(1, c.plan(0, 1, 5));
        due(1, c.clock(3));
        due(2, c.of(0, 4));
        due(0, c.clock(4));
        due(4, c.of(0, 0));
        due(0, c.of(0, 4));
        due(0, c.count(6));
        due(0, c.clock(20));
        due(1, c.of(0, 5));
        CinemaClock d = new CinemaClock();
        d.task(RATE, 0, 2);
        d.set(0, FAILURE, 1);
        d.plan(0, 1, 0);
        d.plan(0, 2, 0);
        due(2, d.clock(4));
        due(2, d.of(0, 5));
        due(0, d.of(0, 0));
        due(0, d.run(1, 5));
        due(1, d.clock(6));
        due(0, d.of(0, 5));
        // other runs of a task that is stopped go on; the row of failures is theirs, too
        CinemaClock e = new CinemaClock();
        e.workers(3);
        e.task(RATE, 0, 1);
        e.set(0, OVERLAP, 2);
        e.set(0, LENGTH, 3);
        e.set(0, FAILURE, 0);
        e.plan(0, 1, 5);
        e.plan(0, 2, 5);
        due(3, e.clock(4));
        due(4, e.of(0, 0));
        due(2, e.count(3));
        due(0, e.clock(5));
        due(2, e.of(0, 5));
        due(0, e.clock(6));
        due(0, e.of(0, 5));
        due(1, e.run(2, 4));
    }

    // Part 2, step 1: a PAUSE task has its rest added to its pause
    private static void pauseAndFailures() {
        CinemaClock c = new CinemaClock();
        c.task(PAUSE, 0, 10);
        c.set(0, FAILURE, 2);
        c.plan(0, 1, 1);
        c.plan(0, 2, 1);
        due(1, c.clock(2));
        due(12, c.next(0, 0));
        due(NONE, c.of(0, 6));
        due(1, c.clock(14));
        due(25, c.next(0, 0));
        due(1, c.clock(27));
        due(36, c.next(0, 0));
        // stopped by a failure: the minute is told before
        CinemaClock d = new CinemaClock();
        d.task(PAUSE, 0, 10);
        d.plan(0, 1, 1);
        due(1, d.clock(2));
        due(4, d.of(0, 0));
        due(11, d.next(0, 0));
        due(1, d.quiet());
        due(0, d.clock(30));
        due(NONE, d.next(0, 0));
        // cancelled while at work: not due any more
        CinemaClock e = new CinemaClock();
        e.task(PAUSE, 0, 10);
        e.set(0, LENGTH, 2);
        due(1, e.clock(1));
        due(1, e.cancel(0, 0));
        due(0, e.clock(5));
        due(NONE, e.next(0, 0));
    }

    // Promise 18
    private static void next() {
        CinemaClock c = new CinemaClock();
        due(BAD, c.next(0, 0));
        c.task(ONCE, 5, 0);
        c.task(RATE, 5, 7);
        c.task(PAUSE, 5, 7);
        c.task(CALENDAR, 0, 0);
        c.task(AFTER, 0, 0);
        due(BAD, c.next(-1, 0));
        due(BAD, c.next(5, 0));
        due(BAD, c.next(0, -1));
        due(BAD, c.next(0, 10));
        due(5, c.next(0, 0));
        due(NONE, c.next(0, 1));
        due(5, c.next(1, 0));
        due(5 + 63, c.next(1, 9));
        due(5, c.next(2, 0));
        due(NONE, c.next(2, 1));
        due(0, c.next(3, 0));
        due(9, c.next(3, 9));
        due(NONE, c.next(4, 0));
        due(1, c.cancel(3, 0));
        due(3, c.next(3, 3));
        due(0, c.clock(5));
        due(5, c.next(0, 0));
        due(5, c.next(1, 0));
        due(1, c.clock(6));
        due(NONE, c.next(0, 0));
        due(12, c.next(1, 0));
        due(19, c.next(1, 1));
        due(NONE, c.next(2, 0));
        due(6, c.next(3, 0));
        due(1, c.clock(12));
        due(12, c.next(1, 0));
        due(14, c.next(2, 0));
        CinemaClock far = new CinemaClock();
        far.task(RATE, 0, 100000);
        due(400000, far.next(0, 4));
        due(NONE, far.next(0, 5));
        far.task(ONCE, 400000, 0);
        due(400000, far.next(1, 0));
    }

    // Promise 19
    private static void waiting() {
        CinemaClock c = new CinemaClock();
        due(NONE, c.waiting(0, 0));
        due(NONE, c.waiting(-1, 2));
        due(BAD, c.waiting(0, -1));
        due(BAD, c.waiting(0, 3));
        due(BAD, c.waiting(-1, 3));
        c.task(ONCE, 0, 0);
        c.task(ONCE, 2, 0);
        c.task(ONCE, 1, 0);
        c.set(0, LENGTH, 9);
        c.set(1, MISS, 2);
        c.set(2, MISS, 2);
        c.set(1, LENGTH, 2);
        due(1, c.clock(3));
        due(2, c.waiting(0, 0));
        due(1, c.waiting(0, 1));
        due(0, c.waiting(0, 2));
        due(1, c.waiting(1, 0));
        due(2, c.waiting(1, 1));
        due(0, c.waiting(1, 2));
        due(NONE, c.waiting(2, 0));
        due(BAD, c.waiting(2, 3));
        due(NONE, c.waiting(LEAST, 0));
        due(0, c.clock(4));
        due(1, c.waiting(0, 2));
        due(0, c.waiting(1, 2));
        due(0, c.clock(6));
        due(1, c.waiting(1, 2));
        due(2, c.count(6));
        // LATE stays with its due when one before it goes, and with no other one
        CinemaClock d = new CinemaClock();
        d.task(ONCE, 0, 0);
        d.task(ONCE, 1, 0);
        d.task(ONCE, 1, 0);
        d.task(ONCE, 4, 0);
        d.set(0, LENGTH, 50);
        d.set(1, LENGTH, 50);
        d.set(2, MISS, 2);
        d.set(3, LENGTH, 50);
        due(1, d.clock(5));
        due(3, d.count(2));
        due(0, d.waiting(0, 2));
        due(1, d.waiting(1, 2));
        due(0, d.waiting(2, 2));
        due(1, d.cancel(1, 0));
        due(2, d.waiting(0, 0));
        due(1, d.waiting(0, 2));
        due(0, d.waiting(1, 2));
        due(1, d.cancel(2, 0));
        due(3, d.waiting(0, 0));
        due(0, d.waiting(0, 2));
        d.task(ONCE, 5, 0);
        due(0, d.clock(6));
        due(4, d.waiting(1, 0));
        due(0, d.waiting(1, 2));
    }

    // Part 2, step 4: rank, minute, task, and the order of coming
    private static void orderOfBeginning() {
        CinemaClock c = new CinemaClock();
        for (int t = 0; t < 5; t++) c.task(ONCE, t == 3 ? 1 : 2, 0);
        c.task(ONCE, 0, 0);
        for (int t = 0; t < 6; t++) c.set(t, LENGTH, 20);
        c.set(5, LENGTH, 3);
        c.set(4, RANK, 9);
        c.set(1, RANK, 1);
        due(2, c.clock(4));
        due(4, c.run(1, 0));
        for (int t = 0; t < 6; t++) c.set(t, MISS, 2);
        due(4, c.clock(100));
        due(1, c.run(2, 0));
        due(3, c.run(3, 0));
        due(0, c.run(4, 0));
        due(2, c.run(5, 0));
        // two dues of one minute of one task, one behind the other
        CinemaClock d = new CinemaClock();
        d.task(CALENDAR, 0, 0);
        d.calendar(0, 0, 59, 0);
        d.set(0, MISS, 2);
        d.set(0, LENGTH, 3);
        due(120, d.jump(120));
        due(2, d.count(2));
        due(1, d.clock(1));
        due(1, d.clock(6));
        due(0, d.count(6));
        due(0, d.run(1, 1));
        due(3, d.run(1, 2));
    }

    // Part 2, step 3
    private static void missRules() {
        for (int rule = 0; rule < 3; rule++) {
            CinemaClock c = new CinemaClock();
            c.task(ONCE, 0, 0);
            c.task(RATE, 1, 3);
            c.set(0, LENGTH, 10);
            c.set(1, LENGTH, 2);
            c.set(1, MISS, rule);
            due(1, c.clock(4));
            due(1, c.count(2));
            due(0, c.count(6));
            due(0, c.clock(5));
            due(1, c.count(6));
            // the due of minute 1 is missed at 4; another due of the task came just before
            row(c, 0, 1, 1, rule);
            due(rule == 2 ? 2 : 1, c.count(2));
            due(rule == 2 ? 1 : 4, c.waiting(0, 1));
            due(rule == 2 ? 1 : 0, c.waiting(0, 2));
            due(0, c.clock(7));
            due(1, c.count(6));
            due(0, c.clock(8));
            row(c, 1, 1, 4, rule);
            due(1, c.clock(11));
            due(rule == 2 ? 1 : 10, c.run(1, 1));
        }
        // two that are missed at once, and one behind them that is not
        CinemaClock two = new CinemaClock();
        for (int t = 0; t < 4; t++) two.task(ONCE, t == 3 ? 2 : 0, 0);
        two.set(0, LENGTH, 50);
        for (int t = 1; t < 4; t++) two.set(t, MISS, 2);
        due(1, two.clock(3));
        due(2, two.count(6));
        for (int i = 0; i < 3; i++) due(i < 2 ? 1 : 0, two.waiting(i, 2));
        // by rule 1 the last due stays, LATE; a LATE one is not asked again
        CinemaClock d = new CinemaClock();
        d.task(ONCE, 0, 0);
        d.task(ONCE, 1, 0);
        d.set(0, LENGTH, 30);
        d.set(1, MISS, 1);
        due(1, d.clock(20));
        row(d, 0, 1, 1, 2);
        due(1, d.count(6));
        due(1, d.waiting(0, 2));
        due(1, d.set(1, LENGTH, 5));
        due(1, d.clock(31));
        due(1, d.run(1, 1));
        due(30, d.run(1, 2));
        // the due that comes in its place is not LATE
        d.task(ONCE, 32, 0);
        due(0, d.clock(33));
        due(2, d.waiting(0, 0));
        due(0, d.waiting(0, 2));
    }

    // Part 2, step 3: a PAUSE task whose due goes is due next at the minute and its b
    private static void pauseAndMisses() {
        CinemaClock c = new CinemaClock();
        c.task(ONCE, 0, 0);
        c.task(PAUSE, 1, 4);
        c.set(0, LENGTH, 10);
        c.set(1, LENGTH, 2);
        due(1, c.clock(4));
        due(NONE, c.next(1, 0));
        due(0, c.clock(5));
        row(c, 0, 1, 1, 0);
        due(8, c.next(1, 0));
        due(0, c.clock(9));
        due(NONE, c.next(1, 0));
        due(1, c.clock(11));
        due(1, c.run(1, 0));
        due(8, c.run(1, 1));
        due(10, c.run(1, 2));
        due(0, c.clock(13));
        due(16, c.next(1, 0));
    }

    // A fired PAUSE task: dues besides its own, and the minute told last
    private static void pauseAndFiring() {
        CinemaClock c = new CinemaClock();
        c.workers(2);
        c.task(PAUSE, 0, 30);
        c.task(ONCE, 1, 0);
        c.body(1, 6, 0, 0);
        c.set(0, LENGTH, 10);
        due(2, c.clock(3));
        due(NONE, c.next(0, 0));
        // fired at 2 for 3: skipped, as a run is at work
        due(0, c.clock(4));
        due(1, c.of(0, 3));
        due(0, c.count(6));
        due(33, c.next(0, 0));
        due(0, c.clock(11));
        due(40, c.next(0, 0));
        // a fired due waits beside the one of its kind
        CinemaClock d = new CinemaClock();
        d.task(ONCE, 0, 0);
        d.task(PAUSE, 2, 30);
        d.body(0, 6, 1, 0);
        due(1, d.clock(2));
        due(2, d.next(1, 0));
        due(1, d.clock(3));
        due(1, d.count(2));
        due(NONE, d.next(1, 0));
        due(1, d.clock(4));
        due(33, d.next(1, 0));
        due(0, d.clock(5));
        due(34, d.next(1, 0));
    }

    // The rules for overlaps
    private static void skipping() {
        for (int rule = 0; rule < 3; rule++) {
            CinemaClock c = new CinemaClock();
            c.workers(3);
            c.task(RATE, 0, 2);
            c.set(0, LENGTH, 5);
            c.set(0, OVERLAP, rule);
            due(rule == 2 ? 3 : 1, c.clock(5));
            due(rule == 0 ? 2 : 0, c.of(0, 3));
            due(rule == 1 ? 2 : 0, c.of(0, 4));
            due(0, c.count(6));
            due(rule == 1 ? 1 : 0, c.clock(6));
            due(rule == 1 ? 0 : 1, c.clock(7));
            due(rule == 1 ? 5 : rule == 0 ? 6 : 2, c.run(1, 2));
        }
        // a due that comes at the minute at which the run ends is not skipped
        CinemaClock d = new CinemaClock();
        d.task(RATE, 0, 5);
        d.set(0, LENGTH, 5);
        due(3, d.clock(11));
        due(0, d.of(0, 3));
        // a due that waits is not skipped when a run begins, but it can't begin
        CinemaClock e = new CinemaClock();
        e.task(RATE, 0, 1);
        e.task(ONCE, 0, 0);
        e.set(1, RANK, 1);
        e.set(1, LENGTH, 2);
        e.set(0, LENGTH, 3);
        due(1, e.clock(2));
        due(2, e.of(0, 4));
        due(1, e.clock(3));
        due(2, e.of(0, 4));
        due(0, e.of(0, 3));
        due(0, e.clock(4));
        due(1, e.of(0, 3));
    }

    // 100 dues wait at most
    private static void crowding() {
        CinemaClock c = new CinemaClock();
        c.task(RATE, 0, 1);
        c.task(PAUSE, 105, 50);
        c.set(0, OVERLAP, 1);
        c.set(0, LENGTH, 120);
        due(1, c.clock(101));
        due(100, c.count(2));
        due(0, c.count(6));
        due(0, c.clock(102));
        due(100, c.count(2));
        row(c, 0, 0, 101, 6);
        due(0, c.clock(106));
        row(c, 4, 0, 105, 6);
        row(c, 5, 1, 105, 6);
        due(155, c.next(1, 0));
        due(1, c.clock(121));
        due(99, c.count(2));
        row(c, 20, 0, 120, 6);
        due(0, c.clock(122));
        due(100, c.count(2));
        due(21, c.count(6));
        due(1, c.cancel(0, 0));
        due(0, c.count(2));
        // a hundred dues that are missed at once
        CinemaClock d = new CinemaClock();
        d.task(ONCE, 0, 0);
        d.set(0, LENGTH, 50);
        due(1, d.clock(1));
        d.task(CALENDAR, 0, 0);
        d.calendar(1, 2, 0, 2);
        d.set(1, MISS, 2);
        due(150, d.jump(150));
        due(100, d.count(2));
        due(50, d.count(6));
        row(d, 0, 1, 1, 6);
        row(d, 49, 1, 1, 6);
        due(0, d.clock(3));
        due(52, d.count(6));
        due(0, d.clock(4));
        due(153, d.count(6));
        for (int i = 0; i < 100; i++) due(1, d.waiting(i, 2));
    }

    // Promise 20
    private static void book() {
        CinemaClock c = new CinemaClock();
        due(NONE, c.book(0, 0));
        due(BAD, c.book(0, -1));
        due(BAD, c.book(0, 3));
        due(BAD, c.book(-1, 3));
        due(NONE, c.book(-1, 0));
        due(NONE, c.book(LEAST, 2));
        due(NONE, c.book(MOST, 2));
        c.task(RATE, 0, 1);
        c.stop(0);
        due(0, c.clock(299));
        due(NONE, c.book(299, 1));
        due(0, c.clock(310));
        due(310, c.count(6));
        row(c, 0, 0, 0, 4);
        row(c, 299, 0, 299, 4);
        due(NONE, c.book(300, 0));
        due(NONE, c.book(309, 0));
    }

    // Promise 21
    private static void count() {
        CinemaClock c = new CinemaClock();
        c.workers(3);
        c.group(1);
        c.group(1);
        for (int t = 0; t < 4; t++) c.task(RATE, 0, 3);
        for (int t = 0; t < 4; t++) c.set(t, LENGTH, 50);
        c.set(2, GROUP, 1);
        c.set(3, GROUP, 1);
        due(3, c.clock(4));
        due(20, c.jump(20));
        due(1, c.stop(0));
        due(0, c.clock(7));
        int[] counts = {4, 3, 2, 3, 7, 20, 4, 2, 3, 26, 1};
        for (int what = 0; what < counts.length; what++) due(counts[what], c.count(what));
        due(BAD, c.count(-1));
        due(BAD, c.count(11));
        due(BAD, c.count(MOST));
    }

    // Promise 22
    private static void cell() {
        CinemaClock c = new CinemaClock();
        c.task(ONCE, 0, 0);
        c.body(0, 1, -3, 7);
        c.clock(2);
        due(-3, c.cell(7));
        due(0, c.cell(0));
        due(0, c.cell(8));
        due(0, c.cell(15));
        due(0, c.cell(-1));
        due(0, c.cell(LEAST));
    }

    private static void day(int minute, int month, int day, int hour, int minuteOfHour, int weekday) {
        CinemaClock c = new CinemaClock();
        int[] wants = {month, day, hour, minuteOfHour, weekday};
        for (int what = 0; what < 5; what++) {
            if (c.day(minute, what) == wants[what]) continue;
            wrong++;
            System.out.println("day(" + minute + ", " + what + ") answered " + c.day(minute, what)
                + ", due is " + wants[what]);
        }
    }

    // Promise 23
    private static void day() {
        CinemaClock c = new CinemaClock();
        due(BAD, c.day(-1, 0));
        due(BAD, c.day(525600, 0));
        due(BAD, c.day(LEAST, 0));
        due(BAD, c.day(0, -1));
        due(BAD, c.day(0, 5));
        day(0, 1, 1, 0, 0, 0);
        day(1439, 1, 1, 23, 59, 0);
        day(1440, 1, 2, 0, 0, 1);
        day(7 * 1440 - 1, 1, 7, 23, 59, 6);
        day(7 * 1440, 1, 8, 0, 0, 0);
        day(525599, 12, 31, 23, 59, 0);
        int[] lengths = {31, 28, 31, 30, 31, 30, 31, 31, 30, 31, 30, 31};
        int first = 0;
        for (int m = 0; m < 12; m++) {
            day(first * 1440 + 61, m + 1, 1, 1, 1, first % 7);
            int last = first + lengths[m] - 1;
            day(last * 1440 + 125, m + 1, lengths[m], 2, 5, last % 7);
            first += lengths[m];
        }
    }

    // Promise 24
    private static void idle() {
        CinemaClock c = new CinemaClock();
        due(BAD, c.idle(-1));
        due(BAD, c.idle(1));
        due(BAD, c.idle(MOST));
        c.workers(3);
        c.task(RATE, 2, 10);
        c.task(ONCE, 3, 0);
        c.set(0, LENGTH, 4);
        c.set(1, LENGTH, 9);
        due(2, c.clock(10));
        due(2 + 4, c.idle(0));
        due(3, c.idle(1));
        due(10, c.idle(2));
        due(BAD, c.idle(3));
        due(1, c.clock(13));
        due(8, c.idle(0));
        due(4, c.idle(1));
    }

    // Promise 25
    private static void load() {
        CinemaClock c = new CinemaClock();
        due(BAD, c.load(0));
        c.workers(4);
        c.group(8);
        c.group(8);
        due(BAD, c.load(-1));
        due(BAD, c.load(2));
        due(BAD, c.load(MOST));
        for (int t = 0; t < 4; t++) c.task(ONCE, t, 0);
        for (int t = 0; t < 4; t++) c.set(t, LENGTH, 10);
        c.set(0, GROUP, 0);
        c.set(1, GROUP, 1);
        c.set(2, GROUP, 1);
        due(4, c.clock(4));
        due(1, c.load(0));
        due(2, c.load(1));
        due(1, c.set(1, GROUP, 0));
        due(1, c.load(0));
        due(2, c.load(1));
        due(0, c.clock(12));
        due(0, c.load(0));
        due(1, c.load(1));
        due(1, c.cancel(2, 1));
        due(0, c.load(1));
    }

    // Promise 26
    private static void quiet() {
        CinemaClock c = new CinemaClock();
        due(1, c.quiet());
        c.task(AFTER, 0, 0);
        due(1, c.quiet());
        c.task(ONCE, 5, 0);
        c.task(ONCE, 5, 0);
        due(0, c.quiet());
        due(1, c.clock(6));
        due(0, c.quiet());
        due(1, c.count(3));
        due(1, c.clock(7));
        due(0, c.quiet());
        due(0, c.clock(8));
        due(1, c.quiet());
        c.task(CALENDAR, 0, 0);
        due(0, c.quiet());
        due(1, c.cancel(3, 0));
        due(1, c.quiet());
        c.task(RATE, 400000, 1);
        due(0, c.quiet());
        due(1, c.cancel(4, 0));
        c.task(PAUSE, 8, 5);
        due(0, c.quiet());
        due(1, c.clock(9));
        due(0, c.quiet());
        // a due that waits is not quiet, also when nothing is at work
        CinemaClock e = new CinemaClock();
        e.task(ONCE, 0, 0);
        e.task(AFTER, 0, 0);
        e.after(1, 0, 1);
        e.set(0, LENGTH, 5);
        due(1, e.clock(1));
        due(1, e.cancel(0, 1));
        due(0, e.count(3));
        due(1, e.count(2));
        due(0, e.quiet());
        due(1, e.clock(2));
        due(0, e.quiet());
        due(0, e.clock(3));
        due(1, e.quiet());
        CinemaClock d = new CinemaClock();
        d.workers(2);
        d.group(1);
        d.task(ONCE, 0, 0);
        d.task(ONCE, 0, 0);
        d.set(0, GROUP, 0);
        d.set(0, LENGTH, 9);
        d.set(1, GROUP, 0);
        d.set(1, MISS, 2);
        due(1, d.clock(3));
        due(1, d.cancel(0, 0));
        due(0, d.quiet());
        due(1, d.count(2));
        due(1, d.clock(11));
        due(1, d.quiet());
    }
}
