import java.util.ArrayList;
import java.util.List;

/** The bounds that the promises name, and their refusals: a test for each sentence, told above it. */
public final class PromiseEdgeTests extends Checks {
    public static void main(String[] args) throws ReflectiveOperationException {
        runAll(PromiseEdgeTests.class);
    }

    private static CinemaClock withTask(int kind, int a, int b) {
        CinemaClock c = new CinemaClock();
        due(0, c.task(kind, a, b));
        return c;
    }

    // ---- refusals ----

    /** A call that is refused. */
    private interface Call {
        int on(CinemaClock c);
    }

    /** A house that is full of all there is, with runs at work and dues that wait, at minute 8. */
    private static CinemaClock fullHouse() {
        CinemaClock c = new CinemaClock();
        c.workers(3);
        for (int g = 0; g < 8; g++) c.group(1 + g % 2);
        c.task(RATE, 0, 3);
        c.set(0, LENGTH, 4);
        c.set(0, OVERLAP, 1);
        c.set(0, GROUP, 0);
        c.set(0, FAILURE, 1);
        c.body(0, 1, 3, 0);
        c.task(PAUSE, 1, 5);
        c.set(1, LENGTH, 2);
        c.task(CALENDAR, 0, 0);
        for (int n = 0; n < 4; n++) c.calendar(2, 2, 0, 20 + n);
        c.set(2, LENGTH, 6);
        c.task(AFTER, 0, 0);
        for (int n = 0; n < 4; n++) c.after(3, 0, n % 3);
        c.task(AFTER, 0, 0);
        c.after(4, 3, 2);
        c.task(RATE, 0, 1);
        c.cancel(5, 0);
        while (c.count(0) < 60) c.task(ONCE, 390000, 0);
        for (int time = 3; time < 43; time++) c.plan(0, time, 2);
        c.clock(8);
        return c;
    }

    private static int[] stateOf(CinemaClock c) {
        List<Integer> all = new ArrayList<>();
        for (int what = 0; what < 11; what++) all.add(c.count(what));
        for (int t = 0; t < 7; t++) {
            for (int what : new int[] {0, 2, 3, 4, 5, 6, 7}) all.add(c.of(t, what));
            all.add(c.next(t, 0));
        }
        for (int i = 0; i < c.count(2) && i < 4; i++) {
            all.add(c.waiting(i, 0));
            all.add(c.waiting(i, 1));
        }
        for (int k = 0; k < 8; k++) all.add(c.cell(k));
        for (int w = 0; w < 3; w++) all.add(c.idle(w));
        all.add(c.load(0));
        all.add(c.quiet());
        int[] state = new int[all.size()];
        for (int i = 0; i < state.length; i++) state[i] = all.get(i);
        return state;
    }

    /** What can only be asked by telling something else. */
    private static int[] toldOf(CinemaClock c) {
        List<Integer> all = new ArrayList<>();
        for (int what = LENGTH; what <= FAILURE; what++) all.add(c.set(0, what, 1));
        all.add(c.calendar(2, 6, 0, 0));
        all.add(c.after(3, 0, 0));
        all.add(c.after(4, 3, 0));
        all.add(c.workers(1));
        all.add(c.stop(1));
        all.add(c.go());
        all.add(c.workers(1));
        all.add(c.clearPlan());
        int[] told = new int[all.size()];
        for (int i = 0; i < told.length; i++) told[i] = all.get(i);
        return told;
    }

    private static void refused(int want, Call call) {
        CinemaClock plain = fullHouse();
        CinemaClock asked = fullHouse();
        due(want, call.on(asked));
        same("state behind a refused call", stateOf(plain), stateOf(asked));
        plain.clock(40);
        asked.clock(40);
        same("state at 40 behind a refused call", stateOf(plain), stateOf(asked));
        same("what was told before a refused call", toldOf(plain), toldOf(asked));
    }

    // "Refusals .. : they change nothing.": what the house has
    static void refusedBuildingChangesNothing() {
        refused(BAD, c -> c.workers(0));
        refused(BAD, c -> c.workers(9));
        refused(STATE, c -> c.workers(3));
        refused(STATE, c -> c.workers(8));
        refused(BAD, c -> c.group(0));
        refused(BAD, c -> c.group(9));
        refused(FULL, c -> c.group(8));
        refused(BAD, c -> c.task(5, 8, 1));
        refused(BAD, c -> c.task(ONCE, 7, 0));
        refused(FULL, c -> c.task(ONCE, 8, 0));
    }

    // "Refusals .. : they change nothing.": what a task is told
    static void refusedTellingChangesNothing() {
        refused(BAD, c -> c.set(0, LENGTH, 0));
        refused(BAD, c -> c.set(0, LENGTH, 121));
        refused(BAD, c -> c.set(0, GROUP, 8));
        refused(BAD, c -> c.set(0, OVERLAP, 3));
        refused(BAD, c -> c.set(60, RANK, 1));
        refused(BAD, c -> c.set(0, 6, 1));
        refused(BAD, c -> c.calendar(2, 0, 60, 0));
        refused(BAD, c -> c.calendar(0, 0, 0, 0));
        refused(FULL, c -> c.calendar(2, 1, 5, 0));
        refused(BAD, c -> c.body(0, 7, 1, 1));
        refused(BAD, c -> c.body(60, 1, 1, 1));
        refused(BAD, c -> c.after(4, 4, 2));
        refused(BAD, c -> c.after(0, 1, 2));
        refused(BAD, c -> c.after(4, 0, 3));
        refused(STATE, c -> c.after(3, 4, 2));
        refused(FULL, c -> c.after(3, 1, 2));
        refused(BAD, c -> c.plan(1, 0, 2));
        refused(BAD, c -> c.plan(1, 51, 2));
        refused(BAD, c -> c.plan(1, 3, 16));
        refused(FULL, c -> c.plan(1, 3, 2));
    }

    // "Refusals .. : they change nothing.": what comes from outside
    static void refusedOutsideChangesNothing() {
        refused(BAD, c -> c.clock(7));
        refused(BAD, c -> c.clock(5009));
        refused(BAD, c -> c.jump(0));
        refused(BAD, c -> c.jump(721));
        refused(BAD, c -> c.jump(-9));
        refused(BAD, c -> c.cancel(60, 1));
        refused(BAD, c -> c.cancel(0, 2));
        refused(STATE, c -> c.cancel(5, 1));
        refused(BAD, c -> c.stop(2));
        refused(STATE, c -> c.go());
        refused(STATE, c -> {
            c.stop(0);
            int second = c.stop(1);
            c.go();
            return second;
        });
    }

    // "Refusals, the first that fits: BAD .., STATE .., FULL"
    static void theFirstRefusalThatFits() {
        CinemaClock c = fullHouse();
        due(BAD, c.workers(9));
        due(STATE, c.workers(8));
        due(BAD, c.group(0));
        due(FULL, c.group(1));
        due(BAD, c.task(RATE, 8, 0));
        due(BAD, c.task(ONCE, 7, 0));
        due(FULL, c.task(RATE, 8, 1));
        due(BAD, c.calendar(2, 9, 0, 0));
        due(BAD, c.calendar(2, 2, 5, 4));
        due(FULL, c.calendar(2, 2, 4, 5));
        due(BAD, c.plan(1, 3, -1));
        due(FULL, c.plan(1, 3, 0));
        due(BAD, c.cancel(5, 2));
        due(STATE, c.cancel(5, 0));
        c.stop(0);
        due(BAD, c.stop(-1));
        due(STATE, c.stop(1));
    }

    // "Refusals, the first that fits": after() knows all three
    static void theFirstRefusalOfAfter() {
        CinemaClock c = fullHouse();
        // task 3 has four notes, and task 4 comes after it
        due(BAD, c.after(3, 4, 3));
        due(BAD, c.after(3, 3, 0));
        due(BAD, c.after(3, 60, 0));
        due(STATE, c.after(3, 4, 0));
        due(FULL, c.after(3, 1, 0));
    }

    // ---- promise 1 ----

    // "One worker, no tasks, no GROUPS; NOW 0."
    static void p01NewObject() {
        CinemaClock c = new CinemaClock();
        due(1, c.count(8));
        due(0, c.idle(0));
        due(BAD, c.idle(1));
        due(0, c.count(0));
        due(BAD, c.of(0, 0));
        due(BAD, c.next(0, 0));
        due(BAD, c.cancel(0, 0));
        due(0, c.count(7));
        due(BAD, c.load(0));
        due(0, c.count(4));
        for (int what : new int[] {1, 2, 3, 5, 6, 10}) due(0, c.count(what));
        due(1, c.quiet());
        due(0, c.clearPlan());
        due(STATE, c.go());
    }

    // two objects have nothing in common
    static void p01ObjectsAreApart() {
        CinemaClock c = fullHouse();
        CinemaClock d = new CinemaClock();
        due(0, d.count(0));
        due(0, d.task(ONCE, 0, 0));
        due(1, d.clock(2));
        due(60, c.count(0));
        due(0, d.cell(0));
    }

    // ---- promise 2 ----

    // "n workers (1 .. 8) from now on": too few, too many
    static void p02WorkersBounds() {
        CinemaClock c = new CinemaClock();
        for (int n : new int[] {0, 9, -1, LEAST, MOST}) due(BAD, c.workers(n));
        due(1, c.count(8));
        for (int n = 1; n <= 8; n++) {
            due(n, c.workers(n));
            due(n, c.count(8));
            due(0, c.idle(n - 1));
            due(BAD, c.idle(n));
        }
    }

    // "from now on": fewer than before, too
    static void p02FewerWorkers() {
        CinemaClock c = new CinemaClock();
        c.workers(8);
        due(1, c.workers(1));
        c.task(ONCE, 0, 0);
        c.task(ONCE, 0, 0);
        due(1, c.clock(1));
        due(1, c.count(2));
    }

    // "idle minutes begin anew"
    static void p02IdleMinutesBeginAnew() {
        CinemaClock c = new CinemaClock();
        c.workers(2);
        c.clock(5);
        due(5, c.idle(1));
        due(2, c.workers(2));
        due(0, c.idle(0));
        due(0, c.idle(1));
        c.clock(6);
        due(1, c.workers(1));
        due(3, c.workers(3));
        for (int w = 0; w < 3; w++) due(0, c.idle(w));
    }

    // "STATE: a RUN is at work."
    static void p02WorkersWhileARunIsAtWork() {
        CinemaClock c = withTask(ONCE, 0, 0);
        c.set(0, LENGTH, 3);
        due(2, c.workers(2));
        due(1, c.clock(3));
        due(STATE, c.workers(2));
        due(0, c.idle(0));
        due(3, c.idle(1));
        due(0, c.clock(4));
        due(2, c.workers(2));
        // dues that wait are of no matter
        CinemaClock d = withTask(CALENDAR, 0, 0);
        d.set(0, MISS, 2);
        due(1, d.jump(1));
        due(1, d.count(2));
        due(4, d.workers(4));
    }

    // ---- promise 3 ----

    // "A GROUP in which most (1 .. 8) RUNS are at work at a time: its number. BAD"
    static void p03GroupBounds() {
        CinemaClock c = new CinemaClock();
        for (int most : new int[] {0, 9, -1, LEAST, MOST}) due(BAD, c.group(most));
        due(0, c.count(7));
        due(0, c.group(1));
        due(1, c.group(8));
    }

    // "FULL: there are 8."
    static void p03EightGroups() {
        CinemaClock c = new CinemaClock();
        for (int g = 0; g < 8; g++) due(g, c.group(8));
        due(FULL, c.group(8));
        due(8, c.count(7));
        due(0, c.load(7));
        due(BAD, c.load(8));
    }

    // ---- promise 4 ----

    // "BAD: kind"
    static void p04Kind() {
        CinemaClock c = new CinemaClock();
        for (int kind : new int[] {-1, 5, LEAST, MOST}) due(BAD, c.task(kind, 0, 1));
        for (int kind = 0; kind < 5; kind++) due(kind, c.task(kind, 0, 1));
    }

    // "of 0 to 2 a is not NOW .. 400000"
    static void p04FirstMinute() {
        CinemaClock c = new CinemaClock();
        c.clock(10);
        for (int kind = ONCE; kind <= PAUSE; kind++) {
            for (int a : new int[] {9, -1, 400001, LEAST, MOST}) due(BAD, c.task(kind, a, 1));
        }
        due(0, c.count(0));
        for (int kind = ONCE; kind <= PAUSE; kind++) {
            due(2 * kind, c.task(kind, 10, 1));
            due(2 * kind + 1, c.task(kind, 400000, 1));
            due(10, c.next(2 * kind, 0));
            due(400000, c.next(2 * kind + 1, 0));
        }
    }

    // "of 1, 2 b is not 1 .. 100000"
    static void p04Rate() {
        CinemaClock c = new CinemaClock();
        for (int kind = RATE; kind <= PAUSE; kind++) {
            for (int b : new int[] {0, -1, 100001, LEAST, MOST}) due(BAD, c.task(kind, 0, b));
        }
        due(0, c.task(RATE, 0, 1));
        due(1, c.task(RATE, 0, 100000));
        due(2, c.task(PAUSE, 0, 1));
        due(3, c.task(PAUSE, 0, 100000));
        due(100000, c.next(1, 1));
    }

    // "of 0 to 2", "of 1, 2": of other kinds a and b may be any
    static void p04NumbersThatAreNotAsked() {
        CinemaClock c = new CinemaClock();
        c.clock(10);
        int t = 0;
        for (int v : new int[] {LEAST, -1, 0, 400001, MOST}) {
            due(t++, c.task(ONCE, 10, v));
            due(t++, c.task(CALENDAR, v, v));
            due(t++, c.task(AFTER, v, v));
        }
    }

    // "FULL."
    static void p04Full() {
        CinemaClock c = new CinemaClock();
        for (int t = 0; t < 60; t++) due(t, c.task(t % 5, 0, 1));
        for (int kind = 0; kind < 5; kind++) due(FULL, c.task(kind, 0, 1));
        due(BAD, c.task(5, 0, 1));
        // a cancelled task still counts
        due(1, c.cancel(7, 0));
        due(FULL, c.task(AFTER, 0, 0));
    }

    // ---- promise 5 ----

    private static void setBounds(int what, int least, int most) {
        CinemaClock c = withTask(RATE, 0, 1);
        c.group(1);
        c.group(1);
        for (int v : new int[] {least - 1, most + 1, LEAST, MOST}) due(BAD, c.set(0, what, v));
        int before = what == LENGTH ? 1 : what == GROUP ? NONE : 0;
        for (int v = least; v <= most; v++) {
            due(before, c.set(0, what, v));
            before = v;
        }
        due(most, c.set(0, what, least));
    }

    // "0 LENGTH 1 .. 120"
    static void p05Length() {
        setBounds(LENGTH, 1, 120);
    }

    // "1 rank 0 .. 9"
    static void p05Rank() {
        setBounds(RANK, 0, 9);
    }

    // "2 GROUP (or NONE)"
    static void p05Group() {
        setBounds(GROUP, NONE, 1);
        CinemaClock none = withTask(ONCE, 0, 0);
        due(BAD, none.set(0, GROUP, 0));
        due(NONE, none.set(0, GROUP, NONE));
    }

    // "3 the rule for overlaps 0 .. 2"
    static void p05Overlaps() {
        setBounds(OVERLAP, 0, 2);
    }

    // "4 for misses 0 .. 2"
    static void p05Misses() {
        setBounds(MISS, 0, 2);
    }

    // "5 for failures 0 .. 2"
    static void p05Failures() {
        setBounds(FAILURE, 0, 2);
    }

    // "BAD.": no such task, nothing that is told
    static void p05Bad() {
        CinemaClock c = withTask(ONCE, 0, 0);
        for (int t : new int[] {-1, 1, 60, LEAST, MOST}) due(BAD, c.set(t, LENGTH, 1));
        for (int what : new int[] {-1, 6, LEAST, MOST}) due(BAD, c.set(0, what, 1));
        // a task that is not ACTIVE can be told
        due(1, c.cancel(0, 0));
        due(1, c.set(0, LENGTH, 7));
    }

    // ---- promise 6 ----

    private static void formBounds(int form, int least, int most, int b) {
        CinemaClock c = withTask(CALENDAR, 0, 0);
        for (int a : new int[] {least - 1, most + 1, LEAST, MOST}) due(BAD, c.calendar(0, form, a, b));
        due(1, c.calendar(0, form, least, b));
        due(2, c.calendar(0, form, most, b));
    }

    private static void secondBounds(int form, int a, int least, int most) {
        CinemaClock c = withTask(CALENDAR, 0, 0);
        for (int b : new int[] {least - 1, most + 1, LEAST, MOST}) due(BAD, c.calendar(0, form, a, b));
        due(1, c.calendar(0, form, a, least));
        due(2, c.calendar(0, form, a, most));
    }

    // "BAD: also another KIND"
    static void p06AnotherKind() {
        for (int kind = 0; kind < 5; kind++) {
            CinemaClock c = withTask(kind, 0, 1);
            due(kind == CALENDAR ? 1 : BAD, c.calendar(0, 0, 0, 0));
        }
    }

    // "BAD": no such task, no such form
    static void p06Bad() {
        CinemaClock c = withTask(CALENDAR, 0, 0);
        for (int t : new int[] {-1, 1, 60, LEAST, MOST}) due(BAD, c.calendar(t, 0, 0, 0));
        for (int form : new int[] {-1, 9, LEAST, MOST}) due(BAD, c.calendar(0, form, 1, 1));
    }

    // "of 0: 0 .. 59"
    static void p06Form0() {
        formBounds(0, 0, 59, 0);
    }

    // "1, 2: 0 .. 23"
    static void p06Form1() {
        formBounds(1, 0, 23, 0);
    }

    // "1, 2: 0 .. 23, a not above b"
    static void p06Form2() {
        formBounds(2, 0, 23, 23);
        secondBounds(2, 7, 7, 23);
        CinemaClock c = withTask(CALENDAR, 0, 0);
        due(BAD, c.calendar(0, 2, -1, -1));
        due(BAD, c.calendar(0, 2, 24, 24));
        due(BAD, c.calendar(0, 2, 23, 0));
    }

    // "3, 4: 0 .. 6"
    static void p06Form3() {
        formBounds(3, 0, 6, 0);
    }

    // "3, 4: 0 .. 6": of 4 a may be above b
    static void p06Form4() {
        formBounds(4, 0, 6, 3);
        secondBounds(4, 3, 0, 6);
    }

    // "5: 1 .. 31"
    static void p06Form5() {
        formBounds(5, 1, 31, 0);
    }

    // "7": the a-th (1 .. 5) weekday b
    static void p06Form7() {
        formBounds(7, 1, 5, 3);
        secondBounds(7, 3, 0, 6);
    }

    // "8": its month is a (1 .. 12)
    static void p06Form8() {
        formBounds(8, 1, 12, 0);
    }

    // "numbers that a FORM does not have do not count"
    static void p06NumbersThatDoNotCount() {
        for (int v : new int[] {LEAST, -1, 0, 99, MOST}) {
            for (int form : new int[] {0, 1, 3, 5, 8}) {
                CinemaClock c = withTask(CALENDAR, 0, 0);
                due(1, c.calendar(0, form, 1, v));
            }
            CinemaClock last = withTask(CALENDAR, 0, 0);
            due(1, last.calendar(0, 6, v, v));
            due(30 * 1440, last.next(0, 0));
        }
    }

    // "FULL.", and "how many it has"
    static void p06Full() {
        CinemaClock c = withTask(CALENDAR, 0, 0);
        for (int n = 1; n <= 4; n++) due(n, c.calendar(0, 0, 5, 0));
        due(FULL, c.calendar(0, 0, 5, 0));
        due(BAD, c.calendar(0, 0, 60, 0));
        due(5, c.next(0, 0));
    }

    // ---- promise 7 ----

    // "an act 0 .. 6 .. BAD."
    static void p07Acts() {
        CinemaClock c = withTask(ONCE, 0, 0);
        for (int act : new int[] {-1, 7, LEAST, MOST}) due(BAD, c.body(0, act, 0, 0));
        for (int t : new int[] {-1, 1, 60, LEAST, MOST}) due(BAD, c.body(t, 0, 0, 0));
        int before = 0;
        for (int act = 6; act >= 0; act--) {
            due(before, c.body(0, act, 0, 0));
            before = act;
        }
        due(0, c.body(0, 0, 0, 0));
    }

    // "with x and y (any)"
    static void p07AnyNumbers() {
        for (int act = 0; act <= 6; act++) {
            for (int x : new int[] {LEAST, -1, 60, MOST}) {
                for (int y : new int[] {LEAST, -1, 8, MOST}) {
                    CinemaClock c = withTask(ONCE, 0, 0);
                    due(0, c.body(0, act, x, y));
                    due(1, c.clock(2));
                    ended(c, 0, 1, act >= 5 ? 2 : 1, act >= 5 ? 14 : NONE);
                }
            }
        }
    }

    // ---- promise 8 ----

    // "A NOTE (4 at most)": "FULL"
    static void p08FourNotes() {
        CinemaClock c = withTask(AFTER, 0, 0);
        for (int t = 1; t < 6; t++) c.task(ONCE, 0, 0);
        for (int t = 1; t < 5; t++) due(t, c.after(0, t, 2));
        due(FULL, c.after(0, 5, 2));
        due(FULL, c.after(0, 1, 2));
        // the fifth is none: it doesn't come
        c.workers(8);
        due(5, c.clock(1));
        due(1, c.clock(2));
    }

    // "how 0 .. 2"
    static void p08How() {
        CinemaClock c = withTask(AFTER, 0, 0);
        c.task(ONCE, 0, 0);
        for (int how : new int[] {-1, 3, LEAST, MOST}) due(BAD, c.after(0, 1, how));
        for (int how = 0; how < 3; how++) due(how + 1, c.after(0, 1, how));
    }

    // "BAD (also itself, a task of another KIND)": no such task, itself
    static void p08Bad() {
        CinemaClock c = withTask(AFTER, 0, 0);
        c.task(AFTER, 0, 0);
        due(BAD, c.after(0, 0, 0));
        due(BAD, c.after(1, 1, 2));
        for (int t : new int[] {-1, 2, 60, LEAST, MOST}) {
            due(BAD, c.after(t, 0, 0));
            due(BAD, c.after(0, t, 0));
            due(BAD, c.after(t, t, 0));
        }
    }

    // "a task of another KIND"
    static void p08AnotherKind() {
        for (int kind = 0; kind < 5; kind++) {
            CinemaClock c = withTask(kind, 0, 1);
            c.task(AFTER, 0, 0);
            due(kind == AFTER ? 1 : BAD, c.after(0, 1, 0));
            // the other one may be of each kind
            CinemaClock d = withTask(kind, 0, 1);
            d.task(AFTER, 0, 0);
            due(1, d.after(1, 0, 0));
        }
    }

    // "STATE: it would come after itself, by NOTES of NOTES": two tasks
    static void p08RingOfTwo() {
        CinemaClock c = withTask(AFTER, 0, 0);
        c.task(AFTER, 0, 0);
        due(1, c.after(0, 1, 0));
        due(STATE, c.after(1, 0, 0));
        due(2, c.after(0, 1, 1));
    }

    // "by NOTES of NOTES": the longest chain there is, and one by last notes
    static void p08LongRings() {
        CinemaClock c = new CinemaClock();
        for (int t = 0; t < 60; t++) c.task(AFTER, 0, 0);
        for (int t = 58; t >= 0; t--) due(1, c.after(t, t + 1, 0));
        for (int t = 0; t < 59; t++) due(STATE, c.after(59, t, 0));
        due(2, c.after(0, 59, 0));
        CinemaClock d = new CinemaClock();
        for (int t = 0; t < 5; t++) d.task(AFTER, 0, 0);
        d.task(ONCE, 0, 0);
        for (int n = 1; n <= 3; n++) due(n, d.after(0, 5, 0));
        due(4, d.after(0, 1, 0));
        for (int n = 1; n <= 3; n++) due(n, d.after(1, n + 1, 0));
        due(STATE, d.after(1, 0, 0));
        for (int t = 2; t < 5; t++) due(STATE, d.after(t, 0, 0));
        due(1, d.after(4, 3, 0));
        due(STATE, d.after(3, 0, 0));
        due(1, d.after(3, 2, 0));
    }

    // "it would come after itself": by ways that meet it doesn't
    static void p08WaysThatMeet() {
        CinemaClock c = new CinemaClock();
        for (int t = 0; t < 40; t++) c.task(AFTER, 0, 0);
        for (int t = 0; t < 36; t++) {
            for (int n = 1; n <= 4; n++) due(n, c.after(t, t + n, 0));
        }
        due(STATE, c.after(39, 0, 0));
        due(1, c.after(38, 39, 0));
    }

    // ---- promise 9 ----

    // "The time-th RUN (1 .. 50) of a task"
    static void p09Time() {
        CinemaClock c = withTask(RATE, 0, 1);
        for (int time : new int[] {0, 51, -1, LEAST, MOST}) due(BAD, c.plan(0, time, 1));
        c.set(0, FAILURE, 1);
        due(1, c.plan(0, 1, 1));
        due(2, c.plan(0, 50, 1));
        due(52, c.clock(52));
        for (int i = 0; i < 51; i++) due(i == 0 || i == 49 ? 2 : 1, c.run(i, 4));
    }

    // "with a KIND 0 .. 15"
    static void p09Kind() {
        CinemaClock c = withTask(RATE, 0, 1);
        for (int kind : new int[] {-1, 16, LEAST, MOST}) due(BAD, c.plan(0, 1, kind));
        c.set(0, FAILURE, 1);
        for (int kind = 0; kind < 16; kind++) due(kind + 1, c.plan(0, kind + 1, kind));
        due(17, c.clock(17));
        for (int kind = 0; kind < 16; kind++) ended(c, kind, kind + 1, 2, kind);
    }

    // "BAD": no such task
    static void p09Task() {
        CinemaClock c = withTask(ONCE, 0, 0);
        for (int t : new int[] {-1, 1, 60, LEAST, MOST}) due(BAD, c.plan(t, 1, 1));
        due(0, c.clearPlan());
    }

    // "(in place of what was planned for it)"
    static void p09InPlace() {
        CinemaClock c = withTask(ONCE, 0, 0);
        due(1, c.plan(0, 1, 3));
        due(1, c.plan(0, 1, 4));
        due(1, c.clock(2));
        due(4, c.run(0, 5));
        due(1, c.clearPlan());
    }

    // "FULL: a 41st."
    static void p09FortyPlans() {
        CinemaClock c = withTask(RATE, 0, 1);
        c.task(RATE, 0, 1);
        for (int time = 1; time <= 40; time++) due(time, c.plan(0, time, 1));
        due(FULL, c.plan(0, 41, 1));
        due(FULL, c.plan(1, 1, 1));
        // in place of another one there is room
        due(40, c.plan(0, 40, 2));
        due(40, c.plan(0, 1, 2));
        due(40, c.clearPlan());
    }

    // ---- promise 10 ----

    // "No plans: how many there were."
    static void p10ClearPlan() {
        CinemaClock c = withTask(RATE, 0, 1);
        due(0, c.clearPlan());
        for (int time = 1; time <= 40; time++) due(time, c.plan(0, time, 1));
        due(40, c.clearPlan());
        due(0, c.clearPlan());
        due(2, c.clock(2));
        due(1, c.run(0, 4));
        due(1, c.plan(0, 41, 1));
    }

    // ---- promise 11 ----

    // "BAD: it is not NOW .. NOW + 5000"
    static void p11ClockBounds() {
        CinemaClock c = new CinemaClock();
        due(BAD, c.clock(-1));
        due(BAD, c.clock(5001));
        due(0, c.clock(0));
        due(0, c.clock(5000));
        due(5000, c.count(4));
        for (int minute : new int[] {4999, 10001, 0, -1, LEAST, MOST}) due(BAD, c.clock(minute));
        due(0, c.clock(5000));
        due(0, c.clock(10000));
        due(10000, c.count(4));
    }

    // "or above 400000"
    static void p11LastMinute() {
        CinemaClock c = withTask(RATE, 399999, 1);
        for (int minute = 5000; minute <= 395000; minute += 5000) due(0, c.clock(minute));
        due(0, c.clock(399000));
        for (int minute : new int[] {400001, 404000, MOST}) due(BAD, c.clock(minute));
        due(1, c.clock(400000));
        due(400000, c.count(4));
        due(BAD, c.clock(400001));
        due(0, c.clock(400000));
        due(1, c.count(1));
        due(1, c.task(ONCE, 400000, 0));
        due(BAD, c.task(ONCE, 399999, 0));
        due(400000, c.next(1, 0));
    }

    // "MINUTES NOW .. minute - 1 are TREATED: how many RUNS began."
    static void p11HowManyBegan() {
        CinemaClock c = withTask(RATE, 3, 4);
        due(0, c.clock(3));
        due(0, c.clock(3));
        due(1, c.clock(4));
        due(0, c.clock(7));
        due(2, c.clock(12));
    }

    // ---- promise 12 ----

    // "by -720 .. 720, not 0"
    static void p12JumpBounds() {
        CinemaClock c = new CinemaClock();
        c.clock(2000);
        for (int j : new int[] {0, 721, -721, LEAST, MOST}) due(BAD, c.jump(j));
        due(720, c.jump(720));
        due(0, c.jump(-720));
        due(1, c.jump(1));
        due(0, c.jump(-1));
    }

    // "if the OFFSET would not be -1440 .. 1440"
    static void p12OffsetBounds() {
        CinemaClock c = new CinemaClock();
        c.clock(3000);
        due(720, c.jump(720));
        due(BAD, c.jump(0));
        due(1439, c.jump(719));
        due(BAD, c.jump(2));
        due(1440, c.jump(1));
        due(BAD, c.jump(1));
        due(BAD, c.jump(720));
        due(1440, c.count(5));
        due(720, c.jump(-720));
        due(0, c.jump(-720));
        due(-720, c.jump(-720));
        due(-1439, c.jump(-719));
        due(BAD, c.jump(-2));
        due(-1440, c.jump(-1));
        due(BAD, c.jump(-1));
        due(BAD, c.jump(-720));
        due(-1440, c.count(5));
    }

    // "or the house's minute of NOW below 0"
    static void p12HouseBelowZero() {
        CinemaClock c = new CinemaClock();
        due(BAD, c.jump(-1));
        c.clock(5);
        due(BAD, c.jump(-6));
        due(-5, c.jump(-5));
        due(BAD, c.jump(-1));
        c.clock(6);
        due(BAD, c.jump(-2));
        due(-6, c.jump(-1));
        due(4, c.count(9));
    }

    // ---- promise 13 ----

    // "BAD: no such task, how not 0, 1."
    static void p13CancelBad() {
        CinemaClock c = withTask(ONCE, 0, 0);
        for (int t : new int[] {-1, 1, 60, LEAST, MOST}) due(BAD, c.cancel(t, 0));
        for (int how : new int[] {-1, 2, LEAST, MOST}) due(BAD, c.cancel(0, how));
        due(0, c.of(0, 0));
        due(1, c.cancel(0, 1));
    }

    // "STATE: it is not ACTIVE.": CANCELLED, or STOPPED
    static void p13CancelState() {
        CinemaClock c = withTask(ONCE, 0, 0);
        c.task(ONCE, 0, 0);
        due(1, c.cancel(0, 0));
        due(STATE, c.cancel(0, 0));
        due(STATE, c.cancel(0, 1));
        c.plan(1, 1, 0);
        due(1, c.clock(2));
        due(STATE, c.cancel(1, 0));
        due(4, c.of(1, 0));
        // a ONCE task that is over is ACTIVE
        CinemaClock over = withTask(ONCE, 0, 0);
        due(1, over.clock(2));
        due(2, over.of(0, 0));
        due(1, over.cancel(0, 0));
    }

    // ---- promises 14 and 15 ----

    // "BAD: how not 0, 1. STATE: THE HOUSE is STOPPED."
    static void p14Stop() {
        CinemaClock c = new CinemaClock();
        for (int how : new int[] {-1, 2, LEAST, MOST}) due(BAD, c.stop(how));
        due(0, c.count(10));
        due(1, c.stop(0));
        due(1, c.count(10));
        due(STATE, c.stop(0));
        due(STATE, c.stop(1));
        due(BAD, c.stop(2));
    }

    // "THE HOUSE is STOPPED no more: 1. STATE: it is not."
    static void p15Go() {
        CinemaClock c = new CinemaClock();
        due(STATE, c.go());
        due(1, c.stop(1));
        due(1, c.go());
        due(0, c.count(10));
        due(STATE, c.go());
        due(1, c.stop(1));
    }

    // ---- promise 16 ----

    // "Of RUN i: .. BAD."
    static void p16RunBounds() {
        CinemaClock c = withTask(RATE, 0, 1);
        for (int what = 0; what < 8; what++) due(BAD, c.run(0, what));
        due(2, c.clock(2));
        for (int i : new int[] {-1, 2, 2000, LEAST, MOST}) due(BAD, c.run(i, 0));
        for (int what : new int[] {-1, 8, LEAST, MOST}) due(BAD, c.run(0, what));
        int[] first = {0, 0, 0, 1, 1, NONE, 0, NONE};
        int[] second = {0, 1, 1, NONE, 0, NONE, 0, NONE};
        for (int what = 0; what < 8; what++) {
            due(first[what], c.run(0, what));
            due(second[what], c.run(1, what));
        }
    }

    // "3 when it ENDED (NONE)", "5 the KIND with which it FAILED (NONE)": at work, GOOD, FAILED, INTERRUPTED
    static void p16WhatBecameOfARun() {
        CinemaClock c = new CinemaClock();
        c.workers(4);
        for (int t = 0; t < 4; t++) c.task(ONCE, 0, 0);
        c.set(0, LENGTH, 9);
        c.plan(2, 1, 0);
        c.set(3, LENGTH, 9);
        due(4, c.clock(4));
        due(1, c.cancel(3, 1));
        ended(c, 0, NONE, 0, NONE);
        ended(c, 1, 1, 1, NONE);
        ended(c, 2, 1, 2, 0);
        ended(c, 3, 4, 3, NONE);
    }

    // "1 its DUE's minute, 2 the MINUTE when it began"
    static void p16MinutesOfARun() {
        CinemaClock c = withTask(ONCE, 0, 0);
        c.task(ONCE, 2, 0);
        c.set(0, LENGTH, 3);
        due(2, c.clock(4));
        began(c, 1, 1, 2, 3);
    }

    // "7 GROUP in which it began (NONE)"
    static void p16GroupOfARun() {
        CinemaClock c = withTask(ONCE, 0, 0);
        c.task(ONCE, 0, 0);
        for (int g = 0; g < 8; g++) c.group(1);
        c.set(0, GROUP, 7);
        due(2, c.clock(2));
        due(7, c.run(0, 7));
        due(NONE, c.run(1, 7));
        due(7, c.set(0, GROUP, 0));
        due(7, c.run(0, 7));
    }

    // ---- promise 17 ----

    // "BAD."
    static void p17Bad() {
        CinemaClock c = withTask(ONCE, 0, 0);
        for (int t : new int[] {-1, 1, 60, LEAST, MOST}) due(BAD, c.of(t, 0));
        for (int what : new int[] {-1, 8, LEAST, MOST}) due(BAD, c.of(0, what));
    }

    // "0 CANCELLED 3, STOPPED 4, else a RUN at work 1": also with a run at work
    static void p17LeftWithARunAtWork() {
        CinemaClock c = new CinemaClock();
        c.workers(3);
        c.task(ONCE, 0, 0);
        c.task(RATE, 0, 1);
        c.set(0, LENGTH, 9);
        c.set(1, OVERLAP, 2);
        c.set(1, LENGTH, 2);
        c.plan(1, 1, 1);
        due(3, c.clock(2));
        due(1, c.of(0, 0));
        due(1, c.of(1, 0));
        due(1, c.cancel(0, 0));
        due(3, c.of(0, 0));
        due(0, c.clock(3));
        due(2, c.count(3));
        due(4, c.of(1, 0));
    }

    // "else 2 of a ONCE task that is not due from NOW on and has no DUE, else 0"
    static void p17OnceThatIsOver() {
        CinemaClock c = withTask(ONCE, 0, 0);
        c.task(ONCE, 2, 0);
        c.set(0, LENGTH, 4);
        c.set(1, LENGTH, 2);
        due(0, c.of(0, 0));
        due(1, c.clock(1));
        due(1, c.of(0, 0));
        due(0, c.clock(2));
        // due at NOW
        due(0, c.of(1, 0));
        due(0, c.clock(3));
        // its due waits
        due(0, c.of(1, 0));
        due(1, c.clock(5));
        due(2, c.of(0, 0));
        due(1, c.of(1, 0));
        due(0, c.clock(7));
        due(2, c.of(1, 0));
    }

    // "not due from NOW on and has no DUE": being FIRED is told apart from it (in promise 26), a due that waits isn't
    static void p17OnceThatIsFired() {
        CinemaClock c = withTask(ONCE, 0, 0);
        c.task(ONCE, 1, 0);
        c.body(1, 6, 0, 0);
        c.task(RATE, 3, 1);
        c.set(2, RANK, 9);
        due(2, c.clock(3));
        due(2, c.of(0, 0));
        due(0, c.quiet());
        due(1, c.clock(4));
        due(1, c.of(0, 4));
        due(0, c.of(0, 0));
    }

    // "2 of a ONCE task": no other kind is over
    static void p17OtherKindsAreNotOver() {
        CinemaClock c = new CinemaClock();
        c.stop(0);
        for (int kind = 0; kind < 5; kind++) c.task(kind, 0, 100000);
        due(0, c.clock(2));
        for (int kind = 0; kind < 5; kind++) due(kind == ONCE ? 2 : 0, c.of(kind, 0));
    }

    // "6 the MINUTE till which it RESTS (NONE: no such from NOW on; the MINUTE itself is none of the rest)"
    static void p17TillWhenATaskRests() {
        CinemaClock c = withTask(RATE, 0, 1);
        due(NONE, c.of(0, 6));
        c.set(0, FAILURE, 2);
        c.plan(0, 1, 1);
        c.plan(0, 2, 1);
        c.plan(0, 3, 1);
        due(1, c.clock(2));
        // failed at 1, till 2, which is NOW
        due(NONE, c.of(0, 6));
        due(1, c.clock(4));
        due(5, c.of(0, 6));
        due(0, c.clock(5));
        due(NONE, c.of(0, 6));
        due(1, c.clock(7));
        due(10, c.of(0, 6));
        due(0, c.clock(9));
        due(10, c.of(0, 6));
        due(0, c.clock(10));
        due(NONE, c.of(0, 6));
    }

    // "2 how many RUNS began, 3 SKIPPED, 4 DUES that wait, 5 failures in a row"
    static void p17Counts() {
        CinemaClock c = withTask(RATE, 0, 1);
        c.task(RATE, 0, 1);
        c.set(0, LENGTH, 2);
        c.set(0, FAILURE, 1);
        c.plan(0, 1, 1);
        c.plan(0, 2, 1);
        c.set(1, OVERLAP, 1);
        c.set(1, LENGTH, 90);
        due(1, c.clock(2));
        due(1, c.of(0, 3));
        due(2, c.of(1, 4));
        due(0, c.of(1, 2));
        due(1, c.clock(3));
        due(1, c.of(1, 2));
        due(2, c.of(1, 4));
        due(1, c.of(0, 4));
        due(1, c.of(0, 5));
    }

    // ---- promise 18 ----

    // "BAD."
    static void p18Bad() {
        CinemaClock c = withTask(CALENDAR, 0, 0);
        for (int t : new int[] {-1, 1, 60, LEAST, MOST}) due(BAD, c.next(t, 0));
        for (int i : new int[] {-1, 10, LEAST, MOST}) due(BAD, c.next(0, i));
        due(0, c.next(0, 0));
        due(9, c.next(0, 9));
    }

    // "from NOW on": NOW itself counts
    static void p18FromNowOn() {
        for (int kind = ONCE; kind <= PAUSE; kind++) {
            CinemaClock c = withTask(kind, 5, 100);
            due(0, c.clock(5));
            due(5, c.next(0, 0));
            due(1, c.clock(6));
            due(kind == RATE ? 105 : NONE, c.next(0, 0));
        }
        CinemaClock d = withTask(CALENDAR, 0, 0);
        due(5, d.clock(5));
        due(5, d.next(0, 0));
    }

    // "from NOW on": of a RATE task just at, before and behind one of its minutes
    static void p18RateFromNowOn() {
        CinemaClock c = withTask(RATE, 2, 3);
        int[] want = {2, 2, 2, 5, 5, 5, 8, 8, 8, 11};
        for (int now = 0; now < want.length; now++) {
            c.clock(now);
            due(want[now], c.next(0, 0));
            due(want[now] + 27, c.next(0, 9));
        }
        CinemaClock each = withTask(RATE, 0, 1);
        due(7, each.clock(7));
        due(7, each.next(0, 0));
        due(16, each.next(0, 9));
    }

    // "400000 at most"
    static void p18LastMinute() {
        CinemaClock c = withTask(RATE, 399991, 1);
        due(400000, c.next(0, 9));
        CinemaClock d = withTask(RATE, 399992, 1);
        due(400000, d.next(0, 8));
        due(NONE, d.next(0, 9));
        CinemaClock e = withTask(RATE, 0, 100000);
        for (int i = 0; i < 5; i++) due(100000 * i, e.next(0, i));
        for (int i = 5; i < 10; i++) due(NONE, e.next(0, i));
        CinemaClock f = withTask(RATE, 400000, 100000);
        due(400000, f.next(0, 0));
        due(NONE, f.next(0, 1));
    }

    // "400000 at most": of a calendar task by the MINUTE, not by the house's
    static void p18LastMinuteOfACalendar() {
        // minute 400000 is 18:40 of day 277, October 5
        for (int j : new int[] {0, 1, -1}) {
            CinemaClock c = withTask(CALENDAR, 0, 0);
            c.calendar(0, 8, 10, 0);
            c.calendar(0, 5, 5, 0);
            c.calendar(0, 1, 18, 0);
            c.calendar(0, 0, 40, 0);
            if (j < 0) c.clock(1);
            if (j != 0) due(j, c.jump(j));
            due(j < 0 ? NONE : 400000 - j, c.next(0, 0));
        }
    }

    // "400000 at most": of a PAUSE task that is told a later one
    static void p18LastMinuteOfAPause() {
        CinemaClock c = withTask(PAUSE, 4000, 100000);
        int minute = 0;
        while (minute < 400000) {
            minute = Math.min(minute + 5000, 400000);
            c.clock(minute);
        }
        due(4, c.count(1));
        began(c, 3, 0, 304003, 304003);
        due(NONE, c.next(0, 0));
        due(1, c.quiet());
        CinemaClock d = withTask(PAUSE, 4000, 98999);
        for (minute = 5000; minute <= 305000; minute += 5000) d.clock(minute);
        due(400000, d.next(0, 0));
        due(0, d.quiet());
    }

    // "(a PAUSE task: its next one alone ..)"
    static void p18PauseHasOne() {
        CinemaClock c = withTask(PAUSE, 5, 1);
        due(5, c.next(0, 0));
        for (int i = 1; i < 10; i++) due(NONE, c.next(0, i));
        CinemaClock once = withTask(ONCE, 5, 1);
        for (int i = 1; i < 10; i++) due(NONE, once.next(0, i));
    }

    // "a CALENDAR task: as if the clock did not jump any more": by the OFFSET and by HIGH
    static void p18CalendarByTheOffset() {
        CinemaClock c = withTask(CALENDAR, 0, 0);
        c.calendar(0, 0, 30, 0);
        due(30, c.next(0, 0));
        due(31, c.jump(31));
        due(59, c.next(0, 0));
        due(30, c.jump(-1));
        // the house's 30 is HIGH
        due(60, c.next(0, 0));
        due(120, c.next(0, 1));
    }

    // "ACTIVE or not"
    static void p18OfTasksThatAreNotActive() {
        CinemaClock c = new CinemaClock();
        for (int kind = 0; kind < 5; kind++) {
            c.task(kind, 5, 3);
            due(1, c.cancel(kind, 0));
        }
        int[] want = {5, 5, 5, 0, NONE};
        for (int kind = 0; kind < 5; kind++) due(want[kind], c.next(kind, 0));
        due(0, c.clock(6));
        int[] later = {NONE, 8, NONE, 6, NONE};
        for (int kind = 0; kind < 5; kind++) due(later[kind], c.next(kind, 0));
    }

    // ---- promises 19 and 20 ----

    // "BAD; NONE: not so many (i below 0, too)."
    static void p19WaitingBounds() {
        CinemaClock c = withTask(CALENDAR, 0, 0);
        for (int i : new int[] {-1, 0, 1, LEAST, MOST}) due(NONE, c.waiting(i, 0));
        c.set(0, MISS, 2);
        due(2, c.jump(2));
        for (int what = 0; what < 3; what++) {
            due(0, c.waiting(1, what));
            for (int i : new int[] {-1, 2, 100, LEAST, MOST}) due(NONE, c.waiting(i, what));
        }
        for (int what : new int[] {-1, 3, LEAST, MOST}) {
            for (int i : new int[] {-1, 0, 2}) due(BAD, c.waiting(i, what));
        }
    }

    // "in the order in which they came", "2 whether it is LATE (1, 0)"
    static void p19OrderAndLate() {
        CinemaClock c = new CinemaClock();
        c.task(ONCE, 0, 0);
        c.task(ONCE, 2, 0);
        c.task(ONCE, 1, 0);
        c.set(0, LENGTH, 9);
        c.set(2, MISS, 2);
        due(1, c.clock(4));
        waits(c, 0, 2, 1, 1);
        waits(c, 1, 1, 2, 0);
    }

    // "BAD; NONE: not so many (i below 0, too)."
    static void p20BookBounds() {
        CinemaClock c = withTask(CALENDAR, 0, 0);
        for (int i : new int[] {-1, 0, 1, LEAST, MOST}) due(NONE, c.book(i, 0));
        due(2, c.jump(2));
        row(c, 1, 0, 1, 3);
        for (int what = 0; what < 3; what++) {
            for (int i : new int[] {-1, 2, 300, LEAST, MOST}) due(NONE, c.book(i, what));
        }
        for (int what : new int[] {-1, 3, LEAST, MOST}) {
            for (int i : new int[] {-1, 0, 2}) due(BAD, c.book(i, what));
        }
    }

    // "(the first 300 are kept)", and promise 21: "rows of THE BOOK (also those not kept)"
    static void p20ThreeHundredRows() {
        CinemaClock c = withTask(CALENDAR, 0, 0);
        due(299, c.jump(299));
        row(c, 298, 0, 298, 3);
        due(NONE, c.book(299, 0));
        due(300, c.jump(1));
        row(c, 299, 0, 299, 3);
        due(301, c.jump(1));
        due(301, c.count(6));
        row(c, 299, 0, 299, 3);
        for (int what = 0; what < 3; what++) due(NONE, c.book(300, what));
        due(720, c.jump(419));
        due(720, c.count(6));
        row(c, 0, 0, 0, 3);
        row(c, 299, 0, 299, 3);
        due(NONE, c.book(719, 0));
    }

    // "1 the DUE's minute (of 3: the house's minute)"
    static void p20MinuteOfARow() {
        CinemaClock c = withTask(CALENDAR, 0, 0);
        c.calendar(0, 0, 30, 0);
        due(0, c.clock(10));
        due(60, c.jump(60));
        row(c, 0, 0, 30, 3);
        c.set(0, MISS, 1);
        due(1, c.stop(0));
        due(120, c.jump(60));
        row(c, 1, 0, 10, 4);
    }

    // ---- promise 21 ----

    // "BAD."
    static void p21CountBounds() {
        CinemaClock c = new CinemaClock();
        for (int what : new int[] {-1, 11, LEAST, MOST}) due(BAD, c.count(what));
        int[] want = {0, 0, 0, 0, 0, 0, 0, 0, 1, -1, 0};
        for (int what = 0; what < 11; what++) due(want[what], c.count(what));
    }

    // each count at its most
    static void p21CountsAtTheirMost() {
        CinemaClock c = new CinemaClock();
        due(8, c.workers(8));
        for (int g = 0; g < 8; g++) c.group(8);
        for (int t = 0; t < 60; t++) {
            c.task(RATE, 0, 1);
            c.set(t, LENGTH, 120);
            c.set(t, OVERLAP, 1);
        }
        due(8, c.clock(3));
        due(720, c.jump(720));
        due(1440, c.jump(720));
        due(1, c.stop(0));
        int[] want = {60, 8, 100, 8, 3, 1440, 72, 8, 8, 1442, 1};
        for (int what = 0; what < 11; what++) due(want[what], c.count(what));
    }

    // ---- promise 22 ----

    // "A CELL. 0: none such."
    static void p22CellBounds() {
        CinemaClock c = new CinemaClock();
        c.workers(8);
        for (int k = 0; k < 8; k++) {
            c.task(ONCE, 0, 0);
            c.body(k, 1, k + 1, k);
        }
        due(8, c.clock(2));
        for (int k = 0; k < 8; k++) due(k + 1, c.cell(k));
        for (int k : new int[] {-1, 8, LEAST, MOST}) due(0, c.cell(k));
    }

    // ---- promise 23 ----

    // "Of a house's minute 0 .. 525599 .. BAD."
    static void p23DayBounds() {
        CinemaClock c = new CinemaClock();
        for (int what = 0; what < 5; what++) {
            for (int minute : new int[] {-1, 525600, LEAST, MOST}) due(BAD, c.day(minute, what));
        }
        for (int what : new int[] {-1, 5, LEAST, MOST}) {
            due(BAD, c.day(0, what));
            due(BAD, c.day(525599, what));
            due(BAD, c.day(-1, what));
        }
        int[] first = {1, 1, 0, 0, 0};
        int[] last = {12, 31, 23, 59, 0};
        for (int what = 0; what < 5; what++) {
            due(first[what], c.day(0, what));
            due(last[what], c.day(525599, what));
        }
    }

    // "2 hour, 3 minute of the hour, 4 weekday (0 Monday)": they wrap around
    static void p23HoursAndWeekdays() {
        CinemaClock c = new CinemaClock();
        for (int d = 0; d < 365; d++) {
            due(d % 7, c.day(d * 1440, 4));
            due(d % 7, new CinemaClock().day(d * 1440 + 1439, 4));
        }
        for (int h = 0; h < 24; h++) {
            due(h, c.day(h * 60, 2));
            due(h, c.day(h * 60 + 59, 2));
            due(0, c.day(h * 60, 3));
            due(59, c.day(h * 60 + 59, 3));
        }
    }

    // ---- promises 24 to 26 ----

    // "Idle minutes of a worker. BAD."
    static void p24IdleBounds() {
        CinemaClock c = new CinemaClock();
        for (int n : new int[] {1, 3, 8}) {
            due(n, c.workers(n));
            for (int w : new int[] {-1, n, 8, LEAST, MOST}) due(BAD, c.idle(w));
            due(0, c.idle(n - 1));
            due(0, c.clock(c.count(4) + 2));
            due(2, c.idle(n - 1));
        }
    }

    // "RUNS at work that began in a GROUP. BAD."
    static void p25LoadBounds() {
        CinemaClock c = withTask(ONCE, 0, 0);
        due(BAD, c.load(0));
        due(BAD, c.load(NONE));
        due(0, c.group(8));
        due(1, c.group(8));
        due(NONE, c.set(0, GROUP, 1));
        for (int g : new int[] {-1, 2, 8, LEAST, MOST}) due(BAD, c.load(g));
        due(1, c.clock(1));
        due(0, c.load(0));
        due(1, c.load(1));
        due(0, c.clock(2));
        due(0, c.load(1));
    }

    // "1 if nothing is at work or waits": empty, at work, waiting
    static void p26QuietWhenNothingIsAtWork() {
        CinemaClock c = new CinemaClock();
        due(1, c.quiet());
        c.task(ONCE, 0, 0);
        c.set(0, LENGTH, 2);
        due(1, c.clock(1));
        due(0, c.quiet());
        due(0, c.clock(2));
        due(0, c.quiet());
        due(0, c.clock(3));
        due(1, c.quiet());
        CinemaClock waiting = withTask(ONCE, 0, 0);
        waiting.task(AFTER, 0, 0);
        waiting.after(1, 0, 1);
        waiting.set(0, LENGTH, 2);
        due(1, waiting.clock(1));
        due(1, waiting.cancel(0, 1));
        due(0, waiting.count(3));
        due(0, waiting.quiet());
    }

    // "no ACTIVE task is FIRED"
    static void p26QuietWhenNoneIsFired() {
        CinemaClock c = withTask(ONCE, 0, 0);
        c.task(AFTER, 0, 0);
        c.body(0, 6, 1, 0);
        due(1, c.clock(2));
        due(0, c.count(2) + c.count(3));
        due(NONE, c.next(1, 0));
        due(0, c.quiet());
        due(1, c.cancel(1, 0));
        due(1, c.quiet());
    }

    // "or due from NOW on (as next())"
    static void p26QuietWhenNoneIsDue() {
        for (int kind = ONCE; kind <= CALENDAR; kind++) {
            CinemaClock c = withTask(kind, 400000, 100000);
            due(0, c.quiet());
            due(1, c.cancel(0, 0));
            due(1, c.quiet());
        }
        CinemaClock after = withTask(AFTER, 0, 0);
        due(1, after.quiet());
        CinemaClock never = withTask(CALENDAR, 0, 0);
        never.calendar(0, 8, 12, 0);
        due(1, never.quiet());
        // NOW itself counts
        CinemaClock now = withTask(ONCE, 5, 0);
        due(0, now.clock(5));
        due(0, now.quiet());
    }
}
