/** The bounds that the Terms name in part 2, a MINUTE that is TREATED: a test for each sentence, told above it. */
public final class TreatEdgeTests extends Checks {
    public static void main(String[] args) throws ReflectiveOperationException {
        runAll(TreatEdgeTests.class);
    }

    /** A house with workers and tasks that are due at each minute from 0 on. */
    private static CinemaClock eachMinute(int workers, int tasks) {
        CinemaClock c = new CinemaClock();
        due(workers, c.workers(workers));
        for (int t = 0; t < tasks; t++) due(t, c.task(RATE, 0, 1));
        return c;
    }

    /** A house with workers and tasks that are due once, at minute 0. */
    private static CinemaClock once(int workers, int tasks) {
        CinemaClock c = new CinemaClock();
        due(workers, c.workers(workers));
        for (int t = 0; t < tasks; t++) due(t, c.task(ONCE, 0, 0));
        return c;
    }

    private static void tell(CinemaClock c, int what, int... values) {
        for (int t = 0; t < values.length; t++) c.set(t, what, values[t]);
    }

    // ---- step 1: ends ----

    // "A MINUTE M IS TREATED so (NOW is M + 1 behind it)"
    static void nowIsBehindTheMinute() {
        CinemaClock c = once(1, 1);
        due(0, c.count(4));
        due(1, c.clock(1));
        due(1, c.count(4));
    }

    // "RUNS at work whose end is M .. END": not before, and not later
    static void runsEndAtTheirEnd() {
        CinemaClock c = once(1, 1);
        c.set(0, LENGTH, 120);
        due(1, c.clock(120));
        ended(c, 0, NONE, 0, NONE);
        due(0, c.clock(121));
        ended(c, 0, 120, 1, NONE);
    }

    // "by their numbers, END"
    static void runsEndByTheirNumbers() {
        CinemaClock c = new CinemaClock();
        c.workers(3);
        c.task(ONCE, 2, 0);
        c.task(ONCE, 0, 0);
        c.task(ONCE, 1, 0);
        tell(c, LENGTH, 1, 3, 2);
        // runs 0, 1 and 2 are of the tasks 1, 2 and 0, and all of them end at 3
        for (int t = 0; t < 3; t++) c.body(t, 2, 10, 0);
        due(3, c.clock(4));
        due(12, c.cell(0));
    }

    // "by their numbers, END": a due that an END brings is skipped for a run that is to end behind it
    static void aRunOfAGreaterNumberIsAtWorkStill() {
        CinemaClock c = once(8, 2);
        tell(c, LENGTH, 3, 4);
        c.task(AFTER, 0, 0);
        c.after(2, 0, 0);
        c.after(2, 1, 0);
        due(3, c.clock(4));
        // run 2, of task 2, began at 3 and ends at 4, as run 1 does
        began(c, 2, 2, 3, 3);
        due(0, c.clock(5));
        due(1, c.of(2, 3));
        due(0, c.of(2, 4));
        // a run of a lesser number is at work no more
        CinemaClock d = once(8, 1);
        d.task(ONCE, 1, 0);
        d.task(AFTER, 0, 0);
        d.after(2, 0, 0);
        d.after(2, 1, 0);
        tell(d, LENGTH, 1, 2, 2);
        d.set(2, RANK, 9);
        due(3, d.clock(2));
        began(d, 1, 2, 1, 1);
        began(d, 2, 1, 1, 1);
        due(1, d.clock(4));
        due(0, d.of(2, 3));
        began(d, 3, 2, 3, 3);
    }

    // "What comes of an END, in this order": a STOPPED task's DUES make room for what notes bring
    static void stoppedDuesGoBeforeNotesCome() {
        CinemaClock c = eachMinute(1, 1);
        tell(c, LENGTH, 101);
        tell(c, OVERLAP, 1);
        c.task(AFTER, 0, 0);
        c.after(1, 0, 1);
        c.plan(0, 1, 1);
        due(1, c.clock(101));
        due(100, c.count(2));
        due(1, c.clock(102));
        began(c, 1, 1, 101, 101);
        due(0, c.count(6));
    }

    // "a RUN that is PLANNED to fail (it is the task's time-th one) FAILS with that KIND, nothing else is done"
    static void plannedRunsFailAlone() {
        CinemaClock c = eachMinute(1, 1);
        c.set(0, FAILURE, 1);
        c.body(0, 1, 1, 0);
        c.plan(0, 1, 0);
        c.plan(0, 3, 15);
        due(4, c.clock(4));
        ended(c, 0, 1, 2, 0);
        ended(c, 1, 2, 1, NONE);
        ended(c, 2, 3, 2, 15);
        due(1, c.cell(0));
        due(0, c.count(6));
    }

    // "else its task's BODY's act is done (as it is told then)"
    static void bodyIsTheOneToldAtTheEnd() {
        CinemaClock c = once(1, 1);
        c.set(0, LENGTH, 5);
        c.body(0, 1, 1, 0);
        due(1, c.clock(5));
        due(1, c.body(0, 1, 7, 1));
        due(0, c.clock(6));
        due(0, c.cell(0));
        due(7, c.cell(1));
    }

    // "Its worker is free."
    static void workerIsFreeInTheMinuteOfTheEnd() {
        CinemaClock c = eachMinute(1, 1);
        due(3, c.clock(3));
        began(c, 1, 0, 1, 1);
        due(0, c.run(1, 6));
        due(0, c.idle(0));
    }

    // "of a PAUSE task: it is due next at M and its b", whether it is GOOD or FAILS
    static void pauseIsToldAtEachEnd() {
        for (int rule = 0; rule < 2; rule++) {
            CinemaClock c = new CinemaClock();
            c.task(PAUSE, 0, 7);
            c.set(0, FAILURE, 1);
            if (rule == 1) c.plan(0, 1, 1);
            due(1, c.clock(1));
            due(NONE, c.next(0, 0));
            due(0, c.clock(2));
            due(8, c.next(0, 0));
        }
    }

    // "FAILED: there is one failure in a row more" .. "GOOD: failures in a row are 0."
    static void failuresInARow() {
        CinemaClock c = eachMinute(1, 1);
        c.set(0, FAILURE, 1);
        c.plan(0, 1, 1);
        c.plan(0, 2, 1);
        c.plan(0, 4, 1);
        int[] want = {0, 1, 2, 0, 1, 0};
        for (int m = 1; m <= 6; m++) {
            due(1, c.clock(m));
            due(want[m - 1], c.of(0, 5));
        }
    }

    // "0: the task is STOPPED (its DUES go)."
    static void failureRule0StopsTheTask() {
        CinemaClock c = eachMinute(1, 2);
        tell(c, LENGTH, 3, 50);
        tell(c, OVERLAP, 1, 1);
        c.plan(0, 1, 1);
        due(1, c.clock(3));
        due(2, c.of(0, 4));
        due(3, c.of(1, 4));
        due(1, c.clock(4));
        due(4, c.of(0, 0));
        due(0, c.of(0, 4));
        due(3, c.of(1, 4));
        due(0, c.count(6));
        due(1, c.run(1, 0));
    }

    // "1: nothing."
    static void failureRule1DoesNothing() {
        CinemaClock c = eachMinute(1, 1);
        c.set(0, FAILURE, 1);
        for (int n = 1; n <= 40; n++) c.plan(0, n, 1);
        due(40, c.clock(40));
        due(1, c.of(0, 0));
        due(39, c.of(0, 5));
        due(NONE, c.of(0, 6));
        due(0, c.count(6));
    }

    // "2: it RESTS: till M and 2 to the (failures in a row less 1) .. minutes"
    static void restsAreTwiceAsLongEachTime() {
        CinemaClock c = eachMinute(1, 1);
        c.set(0, FAILURE, 2);
        for (int n = 1; n <= 7; n++) c.plan(0, n, 1);
        int begin = 0;
        for (int n = 0; n < 7; n++) {
            due(1, c.clock(begin + 1));
            due(begin, c.run(n, 2));
            due(0, c.clock(begin + 2));
            int rest = 1 << n;
            due(begin + 1 + rest > c.count(4) ? begin + 1 + rest : NONE, c.of(0, 6));
            due(0, c.clock(begin + 1 + rest));
            begin = begin + 1 + rest;
        }
        due(1, c.clock(begin + 1));
        due(begin, c.run(7, 2));
    }

    // "64 at most, minutes"
    static void restsAre64MinutesAtMost() {
        CinemaClock c = eachMinute(1, 1);
        c.set(0, FAILURE, 2);
        for (int n = 1; n <= 40; n++) c.plan(0, n, 1);
        due(40, c.clock(2270));
        // the seventh failure is the first one with 64 minutes
        for (int n = 7; n < 40; n++) due(c.run(n - 1, 2) + 65, c.run(n, 2));
        due(c.run(5, 2) + 33, c.run(6, 2));
        due(40, c.of(0, 5));
    }

    // "it RESTS: till M and ..": the rest told last, also if the one before it is longer
    static void theRestToldLast() {
        CinemaClock c = eachMinute(2, 1);
        tell(c, FAILURE, 2);
        for (int time : new int[] {1, 2, 3, 4, 5, 7}) c.plan(0, time, 1);
        // rests till 2, 5, 10 and 19; then runs beside each other
        due(4, c.clock(19));
        tell(c, OVERLAP, 2);
        tell(c, LENGTH, 3);
        due(2, c.clock(21));
        tell(c, LENGTH, 2);
        due(1, c.clock(23));
        // the fifth run fails at 22; the due of 21 has begun then
        ended(c, 4, 22, 2, 1);
        began(c, 6, 0, 21, 22);
        due(38, c.of(0, 6));
        // the sixth run is GOOD at 23, so the seventh one's failure at 24 is the first in a row
        due(0, c.clock(25));
        ended(c, 5, 23, 1, NONE);
        ended(c, 6, 24, 2, 1);
        due(1, c.of(0, 5));
        due(NONE, c.of(0, 6));
        due(1, c.clock(26));
        began(c, 7, 0, 25, 25);
    }

    // "(of a PAUSE task so many are added to its next due minute instead)"
    static void restsOfAPauseTaskAreAdded() {
        CinemaClock c = new CinemaClock();
        c.task(PAUSE, 0, 10);
        c.set(0, FAILURE, 2);
        for (int n = 1; n <= 8; n++) c.plan(0, n, 1);
        int begin = 0;
        for (int n = 0; n < 8; n++) {
            due(1, c.clock(begin + 1));
            due(0, c.clock(begin + 2));
            due(NONE, c.of(0, 6));
            begin += 1 + 10 + Math.min(1 << n, 64);
            due(begin, c.next(0, 0));
        }
        due(0, c.count(6));
    }

    // "(Of a task that is not ACTIVE any more none of these but the failures in a row.)": CANCELLED
    static void endsOfACancelledTask() {
        for (int rule = 0; rule < 3; rule++) {
            CinemaClock c = new CinemaClock();
            c.workers(2);
            c.task(PAUSE, 0, 7);
            c.task(ONCE, 0, 0);
            tell(c, LENGTH, 3, 3);
            tell(c, FAILURE, rule, rule);
            c.plan(0, 1, 1);
            c.plan(1, 1, 1);
            due(2, c.clock(1));
            due(1, c.cancel(0, 0));
            due(1, c.cancel(1, 0));
            due(0, c.clock(4));
            for (int t = 0; t < 2; t++) {
                due(1, c.of(t, 5));
                due(3, c.of(t, 0));
                due(NONE, c.of(t, 6));
                due(NONE, c.next(t, 0));
            }
        }
    }

    // "(Of a task that is not ACTIVE any more none of these but the failures in a row.)": STOPPED, and GOOD
    static void endsOfAStoppedTask() {
        CinemaClock c = eachMinute(3, 1);
        tell(c, OVERLAP, 2);
        tell(c, LENGTH, 3);
        c.plan(0, 1, 1);
        c.plan(0, 2, 1);
        due(3, c.clock(4));
        due(4, c.of(0, 0));
        due(0, c.set(0, FAILURE, 2));
        due(0, c.clock(5));
        due(2, c.of(0, 5));
        due(NONE, c.of(0, 6));
        due(0, c.clock(6));
        due(0, c.of(0, 5));
        due(4, c.of(0, 0));
    }

    // "each ACTIVE AFTER task with a NOTE of this task that fits (0: GOOD, 1: not GOOD, 2: each)"
    static void notesFitGoodNotGoodOrEach() {
        for (int failing = 0; failing < 2; failing++) {
            CinemaClock c = once(8, 1);
            for (int how = 0; how < 3; how++) {
                due(1 + how, c.task(AFTER, 0, 0));
                due(1, c.after(1 + how, 0, how));
            }
            c.task(AFTER, 0, 0);
            if (failing == 1) c.plan(0, 1, 0);
            due(3, c.clock(2));
            due(failing == 0 ? 1 : 0, c.of(1, 2));
            due(failing, c.of(2, 2));
            due(1, c.of(3, 2));
            due(0, c.of(4, 2));
        }
    }

    // "each ACTIVE AFTER task": not one that is CANCELLED
    static void notesOfATaskThatIsNotActive() {
        CinemaClock c = once(1, 1);
        c.task(AFTER, 0, 0);
        c.after(1, 0, 2);
        c.cancel(1, 0);
        due(1, c.clock(5));
        due(0, c.of(1, 2));
        due(0, c.count(6));
    }

    // "Then, by numbers, each ACTIVE AFTER task"
    static void notesGoByNumbers() {
        CinemaClock c = new CinemaClock();
        for (int t = 0; t < 3; t++) c.task(AFTER, 0, 0);
        c.task(ONCE, 0, 0);
        c.task(AFTER, 0, 0);
        for (int t : new int[] {4, 2, 1, 0}) c.after(t, 3, 1);
        c.set(3, LENGTH, 9);
        due(1, c.clock(4));
        due(1, c.cancel(3, 1));
        waits(c, 0, 0, 4, 0);
        waits(c, 1, 1, 4, 0);
        waits(c, 2, 2, 4, 0);
        waits(c, 3, 4, 4, 0);
        due(4, c.count(2));
    }

    // "one DUE comes to it (once for an END), of M"
    static void fourNotesGiveOneDue() {
        CinemaClock c = once(4, 1);
        c.task(AFTER, 0, 0);
        for (int how : new int[] {0, 0, 2, 2}) c.after(1, 0, how);
        c.set(1, OVERLAP, 2);
        due(2, c.clock(2));
        began(c, 1, 1, 1, 1);
        due(0, c.clock(9));
    }

    // "(once for an END)": two ENDS give two
    static void twoEndsGiveTwoDues() {
        CinemaClock c = once(4, 2);
        c.task(AFTER, 0, 0);
        c.after(2, 0, 0);
        c.after(2, 1, 0);
        c.set(2, OVERLAP, 2);
        due(4, c.clock(2));
        due(2, c.of(2, 2));
    }

    // ---- step 2: what is due ----

    // "By tasks' numbers, of those ACTIVE then"
    static void duesComeByTasksNumbers() {
        CinemaClock c = eachMinute(1, 4);
        tell(c, LENGTH, 9, 9, 9, 9);
        due(1, c.cancel(2, 0));
        due(1, c.clock(1));
        waits(c, 0, 1, 0, 0);
        waits(c, 1, 3, 0, 0);
        due(2, c.count(2));
    }

    // "of those ACTIVE then": a task that an END of this minute has stopped gets none
    static void anEndOfTheMinuteTakesTheDue() {
        CinemaClock c = eachMinute(2, 2);
        c.body(0, 5, 1, 0);
        due(2, c.clock(1));
        due(1, c.clock(2));
        due(3, c.of(1, 0));
        due(1, c.of(1, 2));
        due(0, c.count(2));
    }

    // "if it was FIRED for M, another one"
    static void firedGivesAnotherDue() {
        CinemaClock c = new CinemaClock();
        c.workers(3);
        c.task(ONCE, 1, 0);
        c.body(0, 6, 1, 0);
        c.task(ONCE, 3, 0);
        c.set(1, OVERLAP, 2);
        due(1, c.clock(3));
        due(2, c.clock(4));
        began(c, 1, 1, 3, 3);
        began(c, 2, 1, 3, 3);
    }

    // "Then HIGH is the house's minute of M, if that is above it."
    static void highIsTakenUpAlone() {
        CinemaClock c = new CinemaClock();
        for (int m = 1; m <= 3; m++) {
            due(0, c.clock(m));
            due(m - 1, c.count(9));
        }
        due(-2, c.jump(-2));
        for (int m = 4; m <= 5; m++) {
            due(0, c.clock(m));
            due(2, c.count(9));
        }
        due(0, c.clock(6));
        due(3, c.count(9));
    }

    // "Then HIGH ..": behind all tasks, so two calendar tasks are due at the same minute
    static void highIsTakenUpBehindAllTasks() {
        CinemaClock c = new CinemaClock();
        c.workers(2);
        c.task(CALENDAR, 0, 0);
        c.task(CALENDAR, 0, 0);
        due(2, c.clock(1));
    }

    // ---- step 3: what is missed ----

    /** Task 0 is at work for long; a due of task 1 comes at 0, and so on each b minutes. */
    private static CinemaClock held(int length, int b, int rule) {
        CinemaClock c = new CinemaClock();
        c.task(ONCE, 0, 0);
        c.task(b > 0 ? RATE : ONCE, 0, b);
        tell(c, LENGTH, 100, length);
        c.set(1, MISS, rule);
        return c;
    }

    // "whose minute is more than its task's LENGTH ahead of M": at just the LENGTH it isn't missed
    static void missedBehindTheLength() {
        for (int length : new int[] {1, 2, 50}) {
            CinemaClock c = held(length, 0, 0);
            due(1, c.clock(length + 1));
            due(1, c.count(2));
            due(0, c.count(6));
            due(0, c.clock(length + 2));
            due(0, c.count(2));
            row(c, 0, 1, 0, 0);
        }
    }

    // "its task's LENGTH": the one told when the minute is treated
    static void missedByTheLengthToldThen() {
        CinemaClock c = held(50, 0, 0);
        due(1, c.clock(10));
        due(50, c.set(1, LENGTH, 9));
        due(0, c.clock(10));
        due(0, c.count(6));
        due(0, c.clock(11));
        row(c, 0, 1, 0, 0);
    }

    // "one that is not LATE": it is asked once
    static void lateOnesAreNotAskedAgain() {
        CinemaClock c = held(1, 0, 2);
        due(1, c.clock(3));
        waits(c, 0, 1, 0, 1);
        due(1, c.count(6));
        due(2, c.set(1, MISS, 0));
        due(0, c.clock(90));
        waits(c, 0, 1, 0, 1);
        due(1, c.count(6));
    }

    // "0: it goes."
    static void missRule0() {
        CinemaClock c = held(2, 2, 0);
        due(1, c.clock(4));
        // that of minute 0 and no other one
        waits(c, 0, 1, 2, 0);
        due(1, c.count(2));
        row(c, 0, 1, 0, 0);
        due(1, c.count(6));
    }

    // step 3 behind step 2: a due that comes in this minute is another one
    static void missRule1CountsTheDueOfThisMinute() {
        CinemaClock c = held(2, 3, 1);
        due(1, c.clock(4));
        row(c, 0, 1, 0, 1);
        waits(c, 0, 1, 3, 0);
        due(1, c.count(2));
        due(1, c.count(6));
    }

    // step 3 ahead of step 4: a missed due goes in the minute in which it could begin
    static void missedOnesGoBeforeOthersBegin() {
        CinemaClock c = held(2, 0, 0);
        c.set(0, LENGTH, 3);
        due(1, c.clock(4));
        row(c, 0, 1, 0, 0);
        due(0, c.count(2));
        // at just its LENGTH it begins
        CinemaClock d = held(2, 0, 0);
        d.set(0, LENGTH, 2);
        due(2, d.clock(3));
        began(d, 1, 1, 0, 2);
        due(0, d.count(6));
    }

    // "1: if another DUE of this task waits, it goes; else it is LATE."
    static void missRule1() {
        CinemaClock c = held(2, 0, 1);
        due(1, c.clock(4));
        row(c, 0, 1, 0, 2);
        waits(c, 0, 1, 0, 1);
        // with another one: that of minute 2
        CinemaClock d = held(2, 2, 1);
        due(1, d.clock(4));
        row(d, 0, 1, 0, 1);
        waits(d, 0, 1, 2, 0);
        due(1, d.count(2));
        due(1, d.count(6));
    }

    // "another DUE of this task": one of another task is of no matter
    static void missRule1AsksForDuesOfItsTask() {
        CinemaClock c = held(2, 0, 1);
        c.task(ONCE, 1, 0);
        c.set(2, LENGTH, 50);
        due(1, c.clock(4));
        row(c, 0, 1, 0, 2);
        due(2, c.count(2));
    }

    // "another DUE of this task waits": a LATE one waits, too
    static void missRule1BesideALateOne() {
        CinemaClock c = held(2, 5, 1);
        due(1, c.clock(4));
        waits(c, 0, 1, 0, 1);
        due(0, c.clock(9));
        row(c, 1, 1, 5, 1);
        due(1, c.count(2));
        waits(c, 0, 1, 0, 1);
    }

    // "2: it is LATE."
    static void missRule2() {
        CinemaClock c = held(2, 2, 2);
        due(1, c.clock(4));
        row(c, 0, 1, 0, 2);
        waits(c, 0, 1, 0, 1);
        waits(c, 1, 1, 2, 0);
        due(0, c.clock(6));
        row(c, 1, 1, 2, 2);
        waits(c, 1, 1, 2, 1);
    }

    // "Of the DUES that wait, in the order in which they came"
    static void missedOnesGoInTheirOrder() {
        CinemaClock c = new CinemaClock();
        c.task(ONCE, 0, 0);
        for (int t = 1; t < 5; t++) c.task(ONCE, t == 3 ? 1 : 2, 0);
        tell(c, LENGTH, 50, 2, 2, 3, 2);
        tell(c, MISS, 0, 0, 2, 1, 0);
        due(1, c.clock(6));
        // that of task 3 came first
        row(c, 0, 3, 1, 2);
        row(c, 1, 1, 2, 0);
        row(c, 2, 2, 2, 2);
        row(c, 3, 4, 2, 0);
        waits(c, 0, 3, 1, 1);
        waits(c, 1, 2, 2, 1);
        due(2, c.count(2));
    }

    // a hundred that are missed at once, by each rule
    static void aHundredAreMissedAtOnce() {
        for (int rule = 0; rule < 3; rule++) {
            CinemaClock c = new CinemaClock();
            c.task(ONCE, 0, 0);
            c.set(0, LENGTH, 50);
            due(1, c.clock(1));
            c.task(CALENDAR, 0, 0);
            c.calendar(1, 2, 0, 1);
            c.set(1, MISS, 2);
            due(119, c.jump(119));
            due(100, c.count(2));
            int before = c.count(6);
            due(2, c.set(1, MISS, rule));
            due(0, c.clock(3));
            due(100, c.count(2));
            due(0, c.clock(4));
            due(rule == 0 ? 0 : rule == 1 ? 1 : 100, c.count(2));
            due(before + 100, c.count(6));
            row(c, before, 1, 1, rule);
            row(c, before + 99, 1, 1, rule == 1 ? 2 : rule);
            if (rule == 2) for (int i = 0; i < 100; i++) due(1, c.waiting(i, 2));
        }
    }

    // "it is LATE": so it stays, as one before it begins or goes, and no other one is
    static void lateIsADueNotAPlace() {
        CinemaClock c = new CinemaClock();
        c.task(ONCE, 0, 0);
        for (int t = 1; t < 4; t++) c.task(ONCE, 1, 0);
        tell(c, LENGTH, 4, 50, 1, 50);
        tell(c, MISS, 0, 0, 2, 0);
        due(1, c.clock(4));
        waits(c, 0, 1, 1, 0);
        waits(c, 1, 2, 1, 1);
        waits(c, 2, 3, 1, 0);
        // that of task 1 begins
        due(1, c.clock(5));
        waits(c, 0, 2, 1, 1);
        waits(c, 1, 3, 1, 0);
        // a new one comes to the place behind them
        due(1, c.cancel(3, 0));
        due(1, c.cancel(2, 0));
        due(4, c.task(ONCE, 5, 0));
        due(0, c.clock(6));
        waits(c, 0, 4, 5, 0);
    }

    // "(its DUES go)": LATE stays with those of other tasks that wait behind
    static void lateBehindDuesThatGo() {
        CinemaClock c = new CinemaClock();
        c.task(ONCE, 0, 0);
        for (int t = 1; t < 4; t++) c.task(ONCE, 1, 0);
        tell(c, LENGTH, 90, 50, 1, 50);
        tell(c, MISS, 0, 0, 2, 0);
        due(1, c.clock(4));
        due(1, c.cancel(1, 0));
        waits(c, 0, 2, 1, 1);
        waits(c, 1, 3, 1, 0);
        due(1, c.cancel(2, 0));
        waits(c, 0, 3, 1, 0);
        due(1, c.count(2));
    }

    // "(A PAUSE task whose DUE goes is due next at M and its b.)", by rule 0 and by rule 1
    static void pauseIsToldAsItsDueGoes() {
        CinemaClock c = new CinemaClock();
        c.task(ONCE, 0, 0);
        c.task(PAUSE, 0, 9);
        c.set(0, LENGTH, 50);
        due(1, c.clock(2));
        due(NONE, c.next(1, 0));
        due(0, c.clock(3));
        row(c, 0, 1, 0, 0);
        due(11, c.next(1, 0));
        CinemaClock d = new CinemaClock();
        d.task(ONCE, 0, 0);
        d.body(0, 6, 2, 0);
        d.task(ONCE, 1, 0);
        d.set(1, LENGTH, 50);
        d.set(1, RANK, 1);
        d.task(PAUSE, 1, 9);
        d.set(2, MISS, 1);
        due(2, d.clock(3));
        // its own due of minute 1 and the fired one of minute 2
        due(2, d.of(2, 4));
        due(NONE, d.next(2, 0));
        due(0, d.clock(4));
        row(d, 0, 2, 1, 1);
        due(12, d.next(2, 0));
    }

    // "else it is LATE": a PAUSE task's due that stays tells no minute
    static void pauseIsNotToldAsItsDueIsLate() {
        CinemaClock c = new CinemaClock();
        c.task(ONCE, 0, 0);
        c.task(PAUSE, 0, 9);
        c.set(0, LENGTH, 50);
        c.set(1, MISS, 1);
        due(1, c.clock(20));
        row(c, 0, 1, 0, 2);
        due(NONE, c.next(1, 0));
    }

    // ---- step 4: what begins ----

    // "the one of the highest rank"
    static void theHighestRankBegins() {
        CinemaClock c = once(1, 3);
        tell(c, RANK, 0, 9, 8);
        due(1, c.clock(1));
        due(1, c.run(0, 0));
    }

    // "of these of the least minute"
    static void theLeastMinuteBegins() {
        CinemaClock c = new CinemaClock();
        c.task(ONCE, 0, 0);
        c.task(ONCE, 2, 0);
        c.task(ONCE, 1, 0);
        tell(c, LENGTH, 3, 3, 3);
        due(2, c.clock(4));
        began(c, 1, 2, 1, 3);
    }

    // "of these of the least task"
    static void theLeastTaskBegins() {
        CinemaClock c = once(1, 3);
        tell(c, LENGTH, 9, 9, 9);
        due(1, c.cancel(0, 0));
        due(1, c.clock(1));
        due(1, c.run(0, 0));
        // notes come by ends, so the greater task may come first
        CinemaClock d = new CinemaClock();
        d.workers(2);
        d.task(AFTER, 0, 0);
        d.task(AFTER, 0, 0);
        d.task(ONCE, 0, 0);
        d.task(ONCE, 0, 0);
        tell(d, LENGTH, 1, 1, 9, 9);
        d.after(1, 2, 1);
        d.after(0, 3, 1);
        due(2, d.clock(1));
        due(1, d.cancel(2, 1));
        due(1, d.cancel(3, 1));
        waits(d, 0, 1, 1, 0);
        waits(d, 1, 0, 1, 0);
        due(2, d.clock(2));
        began(d, 2, 0, 1, 1);
        began(d, 3, 1, 1, 1);
    }

    // "of these that came first, begins": told by the places of those that still wait
    static void theFirstToComeBegins() {
        CinemaClock c = new CinemaClock();
        for (int t = 0; t < 2; t++) {
            c.task(CALENDAR, 0, 0);
            c.set(t, MISS, 2);
        }
        due(1, c.jump(1));
        due(2, c.jump(1));
        int[] before = {0, 1, 0, 1, NONE};
        for (int i = 0; i < 5; i++) due(before[i], c.waiting(i, 0));
        due(1, c.clock(1));
        due(0, c.run(0, 0));
        int[] behind = {1, 0, 1, 0, 1, NONE};
        for (int i = 0; i < 6; i++) due(behind[i], c.waiting(i, 0));
    }

    // "the one of the highest rank, of these of the least minute": LATE is no rank
    static void aLateDueBeginsAsOthers() {
        CinemaClock c = held(1, 0, 2);
        c.task(ONCE, 2, 0);
        due(1, c.clock(3));
        waits(c, 0, 1, 0, 1);
        waits(c, 1, 2, 2, 0);
        due(1, c.cancel(0, 1));
        due(1, c.clock(4));
        began(c, 1, 1, 0, 3);
    }

    // "a RUN (numbered from 0, 2000 at most)" .. "none can behind the 2000th RUN"
    static void twoThousandRuns() {
        CinemaClock c = eachMinute(8, 8);
        for (int t = 0; t < 8; t++) c.set(t, MISS, 2);
        due(0, c.count(1));
        due(1992, c.clock(249));
        due(8, c.clock(250));
        due(2000, c.count(1));
        due(0, c.clock(251));
        due(2000, c.count(1));
        due(7, c.run(1999, 0));
        due(BAD, c.run(2000, 0));
        due(8, c.count(2));
        due(0, c.count(3));
        due(1, c.idle(0));
    }

    // "2000 at most": the 2000th begins, and none behind it in the same minute
    static void theLastRunIsInTheMiddleOfAMinute() {
        CinemaClock c = eachMinute(3, 3);
        due(1998, c.clock(666));
        due(2, c.clock(667));
        due(1, c.run(1999, 0));
        due(1, c.count(2));
        waits(c, 0, 2, 666, 0);
        due(0, c.clock(700));
    }

    // "by the free worker with the least number"
    static void theLeastFreeWorker() {
        CinemaClock c = once(3, 3);
        tell(c, LENGTH, 5, 2, 5);
        c.task(ONCE, 1, 0);
        c.set(3, LENGTH, 5);
        c.task(ONCE, 3, 0);
        due(3, c.clock(1));
        for (int w = 0; w < 3; w++) due(w, c.run(w, 6));
        due(1, c.clock(3));
        due(1, c.run(3, 6));
        due(3, c.run(3, 0));
    }

    // "its end is M and its task's LENGTH (as told then)": least and most
    static void runsAreAsLongAsToldAtTheirBeginning() {
        CinemaClock c = once(2, 2);
        tell(c, LENGTH, 1, 120);
        due(2, c.clock(1));
        tell(c, LENGTH, 120, 1);
        due(0, c.clock(2));
        ended(c, 0, 1, 1, NONE);
        due(0, c.clock(120));
        ended(c, 1, NONE, 0, NONE);
        due(0, c.clock(121));
        ended(c, 1, 120, 1, NONE);
    }

    // "A DUE CAN begin, if a worker is free"
    static void noWorkerIsFree() {
        CinemaClock c = once(8, 9);
        for (int t = 0; t < 9; t++) c.set(t, LENGTH, 2);
        due(8, c.clock(1));
        due(1, c.count(2));
        due(0, c.clock(2));
        due(1, c.clock(3));
        began(c, 8, 8, 0, 2);
    }

    // "fewer RUNS than its GROUP's most are at work that began in this GROUP"
    static void groupsAreFull() {
        for (int most = 1; most <= 8; most++) {
            CinemaClock c = once(8, 8);
            due(0, c.group(most));
            for (int t = 0; t < 8; t++) c.set(t, GROUP, 0);
            for (int t = 0; t < 8; t++) c.set(t, LENGTH, 2);
            due(most, c.clock(1));
            due(most, c.load(0));
            due(8 - most, c.count(2));
            due(0, c.clock(2));
            due(Math.min(most, 8 - most), c.clock(3));
        }
    }

    // "fewer RUNS than its GROUP's most": one of another group, or of none, goes ahead
    static void aFullGroupHoldsBackItsOwnAlone() {
        CinemaClock c = once(4, 4);
        due(0, c.group(1));
        due(1, c.group(1));
        tell(c, RANK, 9, 8, 7, 6);
        tell(c, GROUP, 0, 0, 1, NONE);
        tell(c, LENGTH, 5, 5, 5, 5);
        due(3, c.clock(1));
        due(0, c.run(0, 0));
        due(2, c.run(1, 0));
        due(3, c.run(2, 0));
        due(1, c.load(0));
        due(1, c.load(1));
    }

    // "that began in this GROUP": not those whose task is in it now
    static void groupsCountWhereRunsBegan() {
        CinemaClock c = once(4, 3);
        due(0, c.group(1));
        tell(c, LENGTH, 9, 9, 9);
        c.set(1, GROUP, 0);
        c.cancel(2, 0);
        c.task(ONCE, 1, 0);
        c.set(3, GROUP, 0);
        c.set(3, LENGTH, 120);
        due(2, c.clock(1));
        // out of the group, but its run began in it
        due(0, c.set(1, GROUP, NONE));
        due(1, c.load(0));
        due(0, c.clock(5));
        // into the group, but its run began outside
        due(NONE, c.set(0, GROUP, 0));
        due(1, c.load(0));
        due(0, c.clock(9));
        due(1, c.clock(10));
        began(c, 2, 3, 1, 9);
        due(0, c.run(2, 7));
        due(NONE, c.run(0, 7));
        due(0, c.run(1, 7));
    }

    // "unless its task's rule for overlaps is 2, no RUN of its task is at work"
    static void overlapsHoldBackWhatWaits() {
        for (int rule = 0; rule < 3; rule++) {
            CinemaClock c = new CinemaClock();
            c.workers(2);
            c.task(CALENDAR, 0, 0);
            c.calendar(0, 0, 0, 0);
            c.set(0, MISS, 2);
            c.set(0, LENGTH, 3);
            c.set(0, OVERLAP, rule);
            due(1, c.jump(1));
            due(60, c.jump(59));
            // one due was missed in the jumps, one is that of minute 0 itself
            due(rule == 2 ? 2 : 1, c.clock(1));
            due(rule == 2 ? 0 : 1, c.count(2));
            due(0, c.clock(3));
            due(rule == 2 ? 0 : 1, c.clock(4));
        }
    }

    // ---- step 5: idle minutes ----

    // "Each worker without a RUN has one idle minute more."
    static void idleMinutesOfEachWorker() {
        CinemaClock c = once(3, 2);
        tell(c, LENGTH, 2, 5);
        due(2, c.clock(10));
        due(8, c.idle(0));
        due(5, c.idle(1));
        due(10, c.idle(2));
    }

    // ---- a due that comes ----

    // "THE HOUSE is STOPPED: it goes (4)."
    static void aStoppedHouseTakesNoDue() {
        CinemaClock c = eachMinute(1, 1);
        c.stop(0);
        due(0, c.clock(2));
        row(c, 0, 0, 0, 4);
        row(c, 1, 0, 1, 4);
        due(2, c.count(6));
        c.go();
        due(1, c.clock(3));
        due(2, c.count(6));
    }

    // "Its task RESTS (till a later MINUTE): it goes (5).": at the minute till which it rests it comes
    static void aTaskThatRestsTakesNoDue() {
        CinemaClock c = eachMinute(1, 1);
        c.set(0, FAILURE, 2);
        c.plan(0, 1, 1);
        c.plan(0, 2, 1);
        due(1, c.clock(2));
        row(c, 0, 0, 1, 5);
        due(1, c.clock(3));
        began(c, 1, 0, 2, 2);
        // fails at 3: till 5
        due(0, c.clock(5));
        row(c, 1, 0, 3, 5);
        row(c, 2, 0, 4, 5);
        due(1, c.clock(6));
        began(c, 2, 0, 5, 5);
        due(3, c.count(6));
    }

    // "Its rule for overlaps is 0, and a RUN of it is at work: it is SKIPPED (counted; it goes)."
    static void skippedWhileARunIsAtWork() {
        CinemaClock c = eachMinute(2, 2);
        tell(c, LENGTH, 3, 1);
        due(4, c.clock(3));
        due(2, c.of(0, 3));
        due(0, c.of(0, 4));
        due(0, c.of(1, 3));
        due(0, c.count(6));
        // at the minute of the end none is at work
        due(2, c.clock(4));
        due(2, c.of(0, 3));
    }

    // "Its rule for overlaps is 0": by 1 and 2 none is skipped
    static void otherRulesSkipNone() {
        for (int rule = 1; rule <= 2; rule++) {
            CinemaClock c = eachMinute(1, 1);
            tell(c, LENGTH, 9);
            tell(c, OVERLAP, rule);
            due(1, c.clock(5));
            due(0, c.of(0, 3));
            due(4, c.count(2));
        }
    }

    // "100 DUES wait: it goes (6). Else it waits."
    static void aHundredDuesWait() {
        CinemaClock c = eachMinute(1, 1);
        tell(c, LENGTH, 120);
        tell(c, OVERLAP, 1);
        due(1, c.clock(100));
        due(99, c.count(2));
        due(0, c.clock(101));
        due(100, c.count(2));
        due(0, c.count(6));
        waits(c, 99, 0, 100, 0);
        due(0, c.clock(102));
        due(100, c.count(2));
        row(c, 0, 0, 101, 6);
        due(NONE, c.waiting(100, 0));
    }

    // "100 DUES wait": of all tasks
    static void aHundredDuesOfAllTasks() {
        CinemaClock c = eachMinute(1, 10);
        for (int t = 0; t < 10; t++) {
            c.set(t, LENGTH, 120);
            c.set(t, OVERLAP, 1);
        }
        due(1, c.clock(10));
        due(99, c.count(2));
        due(0, c.clock(11));
        due(100, c.count(2));
        due(9, c.count(6));
        row(c, 0, 1, 10, 6);
        row(c, 8, 9, 10, 6);
    }

    // the order of these sentences: STOPPED before RESTS
    static void stoppedHouseBeforeRest() {
        CinemaClock c = eachMinute(1, 1);
        c.set(0, FAILURE, 2);
        c.plan(0, 1, 1);
        due(1, c.clock(1));
        c.stop(0);
        due(0, c.clock(2));
        row(c, 0, 0, 1, 4);
        due(1, c.count(6));
    }

    // STOPPED before SKIPPED
    static void stoppedHouseBeforeSkipping() {
        CinemaClock c = eachMinute(1, 1);
        tell(c, LENGTH, 5);
        due(1, c.clock(1));
        c.stop(0);
        due(0, c.clock(2));
        row(c, 0, 0, 1, 4);
        due(0, c.of(0, 3));
    }

    // RESTS before SKIPPED
    static void restBeforeSkipping() {
        CinemaClock c = eachMinute(2, 1);
        tell(c, LENGTH, 3);
        tell(c, OVERLAP, 2);
        tell(c, FAILURE, 2);
        c.plan(0, 1, 1);
        due(2, c.clock(3));
        due(2, c.set(0, OVERLAP, 0));
        due(0, c.clock(4));
        due(1, c.count(3));
        row(c, 0, 0, 3, 5);
        due(0, c.of(0, 3));
    }

    // SKIPPED before 100 that wait
    static void skippingBeforeCrowding() {
        CinemaClock c = eachMinute(1, 1);
        tell(c, LENGTH, 120);
        tell(c, OVERLAP, 1);
        due(1, c.clock(101));
        due(100, c.count(2));
        due(1, c.set(0, OVERLAP, 0));
        due(0, c.clock(102));
        due(1, c.of(0, 3));
        due(0, c.count(6));
    }

    // RESTS before 100 that wait
    static void restBeforeCrowding() {
        CinemaClock c = eachMinute(1, 2);
        tell(c, LENGTH, 120, 1);
        tell(c, OVERLAP, 1, 1);
        tell(c, RANK, 0, 9);
        tell(c, FAILURE, 0, 2);
        c.plan(1, 1, 1);
        c.task(CALENDAR, 0, 0);
        c.calendar(2, 2, 0, 4);
        c.set(2, MISS, 2);
        due(1, c.clock(1));
        // 1 due of task 0 waits; the jump fills up with those of task 2
        due(200, c.jump(200));
        due(100, c.count(2));
        int rows = c.count(6);
        due(0, c.of(1, 4));
        due(1, c.clock(2));
        // at 1 the run of task 1 fails: till 2, so its due of 1 goes for the rest
        row(c, rows, 0, 1, 6);
        row(c, rows + 1, 1, 1, 5);
    }

    // "(A PAUSE task whose DUE goes so is due next at the MINUTE and its b.": for a STOPPED house
    static void pauseWithAStoppedHouse() {
        CinemaClock c = new CinemaClock();
        c.task(PAUSE, 3, 4);
        c.stop(0);
        due(0, c.clock(4));
        row(c, 0, 0, 3, 4);
        due(7, c.next(0, 0));
        due(0, c.clock(8));
        row(c, 1, 0, 7, 4);
        due(11, c.next(0, 0));
    }

    // "A PAUSE task whose DUE goes so ..": SKIPPED (fired while its run is at work)
    static void pauseThatIsSkipped() {
        CinemaClock c = new CinemaClock();
        c.workers(2);
        c.task(PAUSE, 0, 40);
        c.task(ONCE, 2, 0);
        c.body(1, 6, 0, 0);
        c.set(0, LENGTH, 9);
        due(2, c.clock(4));
        due(NONE, c.next(0, 0));
        due(0, c.clock(5));
        due(1, c.of(0, 3));
        due(44, c.next(0, 0));
        // the end tells it anew
        due(0, c.clock(10));
        due(49, c.next(0, 0));
    }

    // "A PAUSE task whose DUE goes so ..": 100 that wait
    static void pauseThatFindsAHundred() {
        CinemaClock c = eachMinute(1, 1);
        tell(c, LENGTH, 120);
        tell(c, OVERLAP, 1);
        c.task(PAUSE, 101, 4);
        due(1, c.clock(101));
        due(100, c.count(2));
        due(0, c.clock(102));
        row(c, 1, 1, 101, 6);
        due(105, c.next(1, 0));
    }

    // "When a PAUSE task is due next is one MINUTE, the one told last"
    static void pauseHasOneMinuteAlone() {
        CinemaClock c = new CinemaClock();
        c.workers(3);
        c.task(PAUSE, 0, 20);
        c.set(0, OVERLAP, 2);
        c.set(0, LENGTH, 5);
        c.task(ONCE, 1, 0);
        c.body(1, 6, 0, 0);
        due(2, c.clock(3));
        due(1, c.clock(4));
        began(c, 2, 0, 3, 3);
        // the first run ends at 5 and tells 25, the second one at 8 and tells 28
        due(0, c.clock(6));
        due(25, c.next(0, 0));
        due(0, c.clock(9));
        due(28, c.next(0, 0));
        due(NONE, c.next(0, 1));
        due(0, c.clock(28));
        due(1, c.clock(29));
        began(c, 3, 0, 28, 28);
    }

    // "as a DUE of its KIND comes it has none till it is told again"
    static void pauseHasNoMinuteWhileItsDueWaits() {
        CinemaClock c = new CinemaClock();
        c.task(ONCE, 0, 0);
        c.task(PAUSE, 1, 2);
        tell(c, LENGTH, 30, 30);
        due(1, c.clock(1));
        due(1, c.next(1, 0));
        due(0, c.clock(2));
        due(NONE, c.next(1, 0));
        due(1, c.clock(31));
        due(NONE, c.next(1, 0));
        due(1, c.of(1, 2));
    }

    // "as a DUE of its KIND comes": one that is fired takes nothing
    static void aFiredDueLeavesThePausesMinute() {
        CinemaClock c = new CinemaClock();
        c.task(ONCE, 0, 0);
        c.body(0, 6, 1, 0);
        c.task(PAUSE, 50, 2);
        c.set(1, LENGTH, 3);
        due(1, c.clock(2));
        due(1, c.clock(3));
        due(50, c.next(1, 0));
        due(0, c.clock(6));
        due(7, c.next(1, 0));
    }

    // ---- the book ----

    // "THE BOOK: what became of DUES: 0 .. 6", each once
    static void eachFateIsInTheBook() {
        CinemaClock c = held(1, 0, 0);
        due(1, c.clock(3));
        row(c, 0, 1, 0, 0);
        CinemaClock d = held(2, 2, 1);
        due(1, d.clock(4));
        row(d, 0, 1, 0, 1);
        CinemaClock e = held(1, 0, 2);
        due(1, e.clock(3));
        row(e, 0, 1, 0, 2);
        CinemaClock f = new CinemaClock();
        f.task(CALENDAR, 0, 0);
        due(1, f.jump(1));
        row(f, 0, 0, 0, 3);
    }

    // "(SKIPPED ones .. are not in it.)"
    static void skippedOnesAreNotInTheBook() {
        CinemaClock c = eachMinute(1, 1);
        tell(c, LENGTH, 50);
        due(1, c.clock(50));
        due(49, c.of(0, 3));
        due(0, c.count(6));
        due(NONE, c.book(0, 0));
    }

    // "(.. those that go with a task that is CANCELLED or STOPPED, are not in it.)"
    static void duesOfLeavingTasksAreNotInTheBook() {
        CinemaClock c = eachMinute(1, 2);
        tell(c, LENGTH, 3, 50);
        tell(c, OVERLAP, 1, 1);
        c.plan(0, 1, 1);
        due(1, c.clock(3));
        due(1, c.cancel(1, 0));
        due(2, c.count(2));
        due(0, c.clock(4));
        due(4, c.of(0, 0));
        due(0, c.count(2));
        due(0, c.count(6));
    }
}
