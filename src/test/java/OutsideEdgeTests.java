/** The bounds that the Terms name in part 3, what comes from outside: a test for each sentence, told above it. */
public final class OutsideEdgeTests extends Checks {
    public static void main(String[] args) throws ReflectiveOperationException {
        runAll(OutsideEdgeTests.class);
    }

    /** A house with workers and tasks that are due at each minute from 0 on. */
    private static CinemaClock eachMinute(int workers, int tasks) {
        CinemaClock c = new CinemaClock();
        due(workers, c.workers(workers));
        for (int t = 0; t < tasks; t++) due(t, c.task(RATE, 0, 1));
        return c;
    }

    private static void tell(CinemaClock c, int what, int... values) {
        for (int t = 0; t < values.length; t++) c.set(t, what, values[t]);
    }

    /** A house with one calendar task that is due at minute 30 of each hour, by a rule for misses. */
    private static CinemaClock halfHours(int rule) {
        CinemaClock c = new CinemaClock();
        c.task(CALENDAR, 0, 0);
        c.calendar(0, 0, 30, 0);
        c.set(0, MISS, rule);
        return c;
    }

    // ---- cancel ----

    // "(what comes then comes of the minute NOW)"
    static void whatComesBetweenMinutesIsOfNow() {
        CinemaClock c = halfHours(1);
        due(0, c.clock(7));
        due(60, c.jump(60));
        waits(c, 0, 0, 7, 0);
        due(1, c.clock(8));
        began(c, 0, 0, 7, 7);
    }

    // "a task is CANCELLED: its DUES go"
    static void duesOfACancelledTaskGo() {
        CinemaClock c = eachMinute(1, 2);
        tell(c, LENGTH, 50, 50);
        tell(c, OVERLAP, 1, 1);
        due(1, c.clock(3));
        due(5, c.count(2));
        due(1, c.cancel(0, 0));
        for (int i = 0; i < 3; i++) waits(c, i, 1, i, 0);
        due(3, c.count(2));
        due(0, c.of(0, 4));
        due(0, c.count(6));
    }

    // "a task is CANCELLED": one that has nothing
    static void aTaskWithoutAnythingIsCancelled() {
        for (int how = 0; how < 2; how++) {
            CinemaClock c = new CinemaClock();
            c.task(AFTER, 0, 0);
            due(1, c.cancel(0, how));
            due(3, c.of(0, 0));
            due(0, c.count(6));
        }
    }

    // "its DUES go; with how 1 its RUNS .. are INTERRUPTED": the dues go before notes bring others
    static void duesGoBeforeRunsAreInterrupted() {
        CinemaClock c = eachMinute(1, 1);
        tell(c, LENGTH, 120);
        tell(c, OVERLAP, 1);
        c.task(AFTER, 0, 0);
        c.after(1, 0, 1);
        due(1, c.clock(101));
        due(100, c.count(2));
        due(1, c.cancel(0, 1));
        waits(c, 0, 1, 101, 0);
        due(1, c.count(2));
        due(0, c.count(6));
    }

    // "with how 1 its RUNS at work, by numbers, are INTERRUPTED: they END at NOW without their act"
    static void interruptedRunsEndAtNow() {
        CinemaClock c = eachMinute(4, 2);
        tell(c, LENGTH, 9, 9);
        tell(c, OVERLAP, 2, 2);
        c.body(0, 1, 1, 0);
        c.plan(0, 1, 4);
        due(4, c.clock(3));
        due(1, c.cancel(0, 1));
        ended(c, 0, 3, 3, NONE);
        ended(c, 2, 3, 3, NONE);
        ended(c, 1, NONE, 0, NONE);
        ended(c, 3, NONE, 0, NONE);
        due(2, c.count(3));
        due(0, c.cell(0));
        due(0, c.clock(3));
        due(2, c.clock(4));
        due(0, c.run(4, 6));
    }

    // "with how 1": with how 0 they go on, and do their act
    static void cancelWithoutInterruptsLeavesRuns() {
        CinemaClock c = eachMinute(1, 1);
        tell(c, LENGTH, 9);
        c.body(0, 1, 1, 0);
        due(1, c.clock(3));
        due(1, c.cancel(0, 0));
        ended(c, 0, NONE, 0, NONE);
        due(0, c.clock(10));
        ended(c, 0, 9, 1, NONE);
        due(1, c.cell(0));
    }

    // an interrupted run in the minute of its end: NOW is that minute, which is not TREATED
    static void interruptedAtTheMinuteOfTheEnd() {
        CinemaClock c = eachMinute(1, 1);
        tell(c, LENGTH, 5);
        c.body(0, 1, 1, 0);
        due(1, c.clock(5));
        due(1, c.cancel(0, 1));
        ended(c, 0, 5, 3, NONE);
        due(0, c.clock(9));
        due(0, c.cell(0));
    }

    // "of what comes of an END only NOTES of others are asked (they are not GOOD)"
    static void interruptedRunsAskNotesAlone() {
        CinemaClock c = new CinemaClock();
        c.workers(8);
        c.task(RATE, 0, 10);
        tell(c, LENGTH, 1);
        tell(c, FAILURE, 1);
        for (int how = 0; how < 3; how++) {
            c.task(AFTER, 0, 0);
            c.after(1 + how, 0, how);
        }
        c.plan(0, 1, 1);
        due(3, c.clock(5));
        due(1, c.of(0, 5));
        due(1, c.set(0, LENGTH, 9));
        due(1, c.clock(11));
        due(1, c.cancel(0, 1));
        // the failures in a row are as before
        due(1, c.of(0, 5));
        due(0, c.of(1, 4));
        due(1, c.of(2, 4));
        due(1, c.of(3, 4));
        waits(c, 0, 2, 11, 0);
        waits(c, 1, 3, 11, 0);
    }

    // "only NOTES of others are asked": an interrupted PAUSE task that is cancelled is told no minute
    static void aCancelledPauseIsToldNoMinute() {
        CinemaClock c = new CinemaClock();
        c.task(PAUSE, 0, 5);
        c.set(0, LENGTH, 9);
        due(1, c.clock(2));
        due(1, c.cancel(0, 1));
        due(NONE, c.next(0, 0));
        due(1, c.quiet());
    }

    // "A task that is not ACTIVE is due no more, and no DUE comes to it.", for each kind
    static void aCancelledTaskIsDueNoMore() {
        for (int kind = ONCE; kind <= AFTER; kind++) {
            CinemaClock c = new CinemaClock();
            c.workers(2);
            due(0, c.task(kind, 3, 2));
            due(1, c.task(ONCE, 0, 0));
            due(kind == AFTER ? 1 : BAD, c.after(0, 1, 2));
            due(1, c.cancel(0, 0));
            due(1, c.clock(9));
            due(0, c.of(0, 2));
            due(0, c.of(0, 3));
            due(0, c.count(2));
            due(0, c.count(6));
            due(1, c.quiet());
        }
    }

    // "no DUE comes to it": not by a jump, nor a row of the book
    static void aCancelledTaskMissesNothingInAJump() {
        for (int rule = 0; rule < 3; rule++) {
            CinemaClock c = halfHours(rule);
            due(1, c.cancel(0, 0));
            due(120, c.jump(120));
            due(0, c.count(2));
            due(0, c.count(6));
        }
    }

    // ---- stop ----

    // "THE HOUSE is STOPPED; .. With how 0 what waits begins as ever."
    static void stopLeavesWhatWaits() {
        CinemaClock c = eachMinute(1, 1);
        tell(c, LENGTH, 3);
        tell(c, OVERLAP, 1);
        due(1, c.clock(3));
        due(1, c.stop(0));
        due(2, c.count(2));
        due(1, c.count(3));
        due(0, c.count(6));
        due(1, c.clock(4));
        began(c, 1, 0, 1, 3);
        row(c, 0, 0, 3, 4);
    }

    // "with how 1 all DUES that wait go (4, as they came)"
    static void stopWithInterruptsDropsDues() {
        CinemaClock c = new CinemaClock();
        c.task(ONCE, 0, 0);
        c.task(ONCE, 2, 0);
        c.task(ONCE, 1, 0);
        c.task(ONCE, 2, 0);
        for (int t = 0; t < 4; t++) c.set(t, LENGTH, 9);
        c.set(3, RANK, 9);
        due(1, c.clock(3));
        due(1, c.stop(1));
        row(c, 0, 2, 1, 4);
        row(c, 1, 1, 2, 4);
        row(c, 2, 3, 2, 4);
        due(3, c.count(6));
        due(0, c.count(2));
        due(NONE, c.waiting(0, 0));
    }

    // "all DUES that wait go": LATE ones, and a hundred of them
    static void stopDropsAHundredDues() {
        CinemaClock c = eachMinute(1, 1);
        tell(c, LENGTH, 120);
        tell(c, OVERLAP, 1);
        due(1, c.clock(101));
        due(1, c.stop(1));
        due(100, c.count(6));
        row(c, 0, 0, 1, 4);
        row(c, 99, 0, 100, 4);
        due(0, c.of(0, 4));
        CinemaClock late = new CinemaClock();
        late.task(ONCE, 0, 0);
        late.task(ONCE, 0, 0);
        tell(late, LENGTH, 20, 1);
        tell(late, MISS, 0, 2);
        due(1, late.clock(3));
        due(1, late.stop(1));
        row(late, 0, 1, 0, 2);
        row(late, 1, 1, 0, 4);
        due(2, late.count(6));
    }

    // "with how 1 ..": nothing waits and nothing is at work
    static void stopOfAnEmptyHouse() {
        CinemaClock c = new CinemaClock();
        due(1, c.stop(1));
        due(1, c.count(10));
        due(0, c.count(6));
        due(1, c.go());
    }

    // "then all RUNS at work are INTERRUPTED likewise"
    static void stopInterruptsAllRuns() {
        CinemaClock c = eachMinute(8, 8);
        for (int t = 0; t < 8; t++) {
            c.set(t, LENGTH, 9);
            c.body(t, 1, 1, 0);
        }
        due(8, c.clock(4));
        due(1, c.stop(1));
        for (int i = 0; i < 8; i++) ended(c, i, 4, 3, NONE);
        due(0, c.count(3));
        due(0, c.cell(0));
        // the tasks are ACTIVE still
        for (int t = 0; t < 8; t++) due(0, c.of(t, 0));
        due(1, c.go());
        due(8, c.clock(5));
    }

    // "all DUES that wait go": one alone, and then none of its task waits
    static void stopDropsTheOnlyDue() {
        CinemaClock c = new CinemaClock();
        c.task(ONCE, 0, 0);
        c.task(ONCE, 0, 0);
        tell(c, LENGTH, 9, 9);
        due(1, c.clock(1));
        due(1, c.of(1, 4));
        due(1, c.stop(1));
        due(0, c.of(1, 4));
        due(2, c.of(1, 0));
        row(c, 0, 1, 0, 4);
        due(1, c.count(6));
    }

    // "then all RUNS at work are INTERRUPTED likewise": by numbers
    static void stopInterruptsByNumbers() {
        CinemaClock c = eachMinute(2, 2);
        tell(c, LENGTH, 9, 9);
        tell(c, RANK, 0, 5);
        for (int t = 0; t < 2; t++) {
            c.task(AFTER, 0, 0);
            c.after(2 + t, t, 1);
        }
        due(2, c.clock(1));
        due(1, c.run(0, 0));
        due(1, c.stop(1));
        row(c, 0, 3, 1, 4);
        row(c, 1, 2, 1, 4);
        due(2, c.count(6));
    }

    // "then all RUNS": the notes of these come to a house that is STOPPED, behind the dues that waited
    static void stopTellsNotesToAStoppedHouse() {
        CinemaClock c = eachMinute(2, 2);
        tell(c, LENGTH, 9, 9);
        tell(c, OVERLAP, 1, 0);
        c.task(AFTER, 0, 0);
        c.after(2, 0, 2);
        c.after(2, 1, 1);
        due(2, c.clock(2));
        due(1, c.count(2));
        due(1, c.stop(1));
        row(c, 0, 0, 1, 4);
        row(c, 1, 2, 2, 4);
        row(c, 2, 2, 2, 4);
        due(3, c.count(6));
        due(0, c.count(2));
    }

    // "(an ACTIVE PAUSE task whose DUE goes .. is due next at NOW and its b)"
    static void stopTellsAPauseWhoseDueGoes() {
        CinemaClock c = new CinemaClock();
        c.task(ONCE, 0, 0);
        c.task(PAUSE, 1, 7);
        tell(c, LENGTH, 50, 50);
        due(1, c.clock(4));
        due(NONE, c.next(1, 0));
        due(1, c.stop(1));
        row(c, 0, 1, 1, 4);
        due(11, c.next(1, 0));
    }

    // "(an ACTIVE PAUSE task .. whose RUN is INTERRUPTED by this is due next at NOW and its b)"
    static void stopTellsAPauseWhoseRunIsInterrupted() {
        CinemaClock c = new CinemaClock();
        c.workers(2);
        c.task(PAUSE, 0, 7);
        c.task(PAUSE, 0, 7);
        tell(c, LENGTH, 50, 50);
        due(2, c.clock(4));
        due(1, c.cancel(1, 0));
        due(1, c.stop(1));
        due(11, c.next(0, 0));
        // "an ACTIVE": not the cancelled one
        due(NONE, c.next(1, 0));
        due(1, c.go());
        due(0, c.clock(11));
        due(1, c.clock(12));
    }

    // "whose DUE goes or whose RUN is INTERRUPTED by this": with how 0 none is told
    static void stopWithoutInterruptsTellsNoPause() {
        CinemaClock c = new CinemaClock();
        c.workers(2);
        c.task(PAUSE, 0, 7);
        c.task(PAUSE, 9, 7);
        c.set(0, LENGTH, 20);
        due(1, c.clock(4));
        due(1, c.stop(0));
        due(NONE, c.next(0, 0));
        due(9, c.next(1, 0));
        // a PAUSE task without a due and a run is told nothing by how 1, either
        due(1, c.go());
        due(1, c.stop(1));
        due(9, c.next(1, 0));
    }

    // ---- jump ----

    // "the house's minutes from that of NOW on, j of them, are jumped over": first and last one
    static void jumpedOverAreTheFirstToTheLast() {
        CinemaClock c = halfHours(0);
        due(0, c.clock(30));
        due(1, c.jump(1));
        row(c, 0, 0, 30, 3);
        due(1, c.count(6));
        CinemaClock d = halfHours(0);
        due(30, d.jump(30));
        due(0, d.count(6));
        due(29, d.count(9));
        due(31, d.jump(1));
        row(d, 0, 0, 30, 3);
        CinemaClock e = halfHours(0);
        due(0, e.clock(29));
        due(1, e.jump(1));
        due(0, e.count(6));
        due(1, e.clock(30));
        due(1, e.of(0, 2));
    }

    // "for each ACTIVE CALENDAR task, by numbers"
    static void jumpGoesByTasks() {
        CinemaClock c = new CinemaClock();
        for (int t = 0; t < 2; t++) {
            c.task(CALENDAR, 0, 0);
            c.calendar(t, 0, 30, 0);
        }
        due(120, c.jump(120));
        row(c, 0, 0, 30, 3);
        row(c, 1, 0, 90, 3);
        row(c, 2, 1, 30, 3);
        row(c, 3, 1, 90, 3);
        due(4, c.count(6));
    }

    // "for each ACTIVE CALENDAR task": no other kind misses anything
    static void jumpMissesNoOtherKind() {
        CinemaClock c = new CinemaClock();
        c.task(ONCE, 5, 0);
        c.task(RATE, 5, 7);
        c.task(PAUSE, 5, 7);
        c.task(AFTER, 0, 0);
        for (int t = 0; t < 4; t++) c.set(t, MISS, 2);
        due(720, c.jump(720));
        due(0, c.count(2));
        due(0, c.count(6));
        for (int t = 0; t < 3; t++) due(5, c.next(t, 0));
    }

    // "those of them that FIT and are above HIGH are missed"
    static void jumpMissesWhatIsAboveHigh() {
        CinemaClock c = new CinemaClock();
        c.task(CALENDAR, 0, 0);
        due(20, c.clock(20));
        due(-10, c.jump(-10));
        // 10 .. 19 are not above HIGH
        due(0, c.jump(10));
        due(0, c.count(6));
        due(-10, c.jump(-10));
        due(1, c.jump(11));
        due(1, c.count(6));
        row(c, 0, 0, 20, 3);
        due(20, c.count(9));
    }

    // "0: each is in THE BOOK (3, with the house's minute)": no due comes
    static void jumpByRule0() {
        CinemaClock c = halfHours(0);
        due(1, c.stop(0));
        due(720, c.jump(720));
        due(12, c.count(6));
        for (int i = 0; i < 12; i++) row(c, i, 0, 30 + 60 * i, 3);
        due(0, c.count(2));
    }

    // "j of them": 720 at most, each of them missed
    static void aWholeJumpIsMissed() {
        CinemaClock c = new CinemaClock();
        c.task(CALENDAR, 0, 0);
        due(720, c.jump(720));
        due(720, c.count(6));
        c.set(0, MISS, 2);
        due(1440, c.jump(720));
        due(720 + 620, c.count(6));
        due(100, c.count(2));
    }

    // "1: if there are some, one DUE comes."
    static void jumpByRule1() {
        CinemaClock c = halfHours(1);
        due(30, c.jump(30));
        due(0, c.count(2));
        due(31, c.jump(1));
        due(1, c.count(2));
        due(720, c.jump(689));
        due(2, c.count(2));
        due(0, c.count(6));
    }

    // "2: a DUE comes for each."
    static void jumpByRule2() {
        CinemaClock c = halfHours(2);
        due(30, c.jump(30));
        due(0, c.count(2));
        due(720, c.jump(690));
        due(12, c.count(2));
        for (int i = 0; i < 12; i++) waits(c, i, 0, 0, 0);
        due(0, c.count(6));
    }

    // "a DUE comes": as each due comes, to a stopped house, a task at work or a hundred that wait
    static void whatAJumpBringsComesAsOthersDo() {
        CinemaClock c = halfHours(2);
        due(1, c.stop(0));
        due(120, c.jump(120));
        row(c, 0, 0, 0, 4);
        row(c, 1, 0, 0, 4);
        due(0, c.count(2));
        CinemaClock d = halfHours(2);
        d.set(0, LENGTH, 20);
        due(1, d.clock(31));
        due(120, d.jump(120));
        due(2, d.of(0, 3));
        due(0, d.count(2));
        due(0, d.count(6));
        CinemaClock e = new CinemaClock();
        e.task(CALENDAR, 0, 0);
        e.set(0, MISS, 2);
        due(101, e.jump(101));
        due(100, e.count(2));
        row(e, 0, 0, 0, 6);
        due(1, e.count(6));
    }

    // "a DUE comes": to a task that RESTS, of the minute NOW
    static void whatAJumpBringsToATaskThatRests() {
        CinemaClock c = halfHours(1);
        c.set(0, FAILURE, 2);
        c.plan(0, 1, 1);
        due(1, c.clock(32));
        // failed at 31, rests till 32: NOW is 32, no more of the rest
        due(60, c.jump(60));
        waits(c, 0, 0, 32, 0);
        CinemaClock d = halfHours(1);
        d.set(0, FAILURE, 2);
        d.plan(0, 1, 1);
        d.plan(0, 2, 1);
        due(2, d.clock(92));
        due(93, d.of(0, 6));
        due(60, d.jump(60));
        row(d, 0, 0, 92, 5);
        due(0, d.count(2));
    }

    // "Then HIGH is the last of them, if that is above it"
    static void highBehindAJump() {
        CinemaClock c = new CinemaClock();
        due(100, c.jump(100));
        due(99, c.count(9));
        due(50, c.jump(-50));
        due(99, c.count(9));
        due(99, c.jump(49));
        due(99, c.count(9));
        due(100, c.jump(1));
        due(99, c.count(9));
        due(101, c.jump(1));
        due(100, c.count(9));
    }

    // "Then HIGH ..": behind all tasks, so each of two tasks misses the same minute
    static void highBehindAllTasksOfAJump() {
        CinemaClock c = new CinemaClock();
        c.task(CALENDAR, 0, 0);
        c.task(CALENDAR, 0, 0);
        due(1, c.jump(1));
        due(2, c.count(6));
    }

    // "Back: the OFFSET is less, nothing else."
    static void backNothingElse() {
        CinemaClock c = halfHours(2);
        due(2, c.clock(100));
        due(-60, c.jump(-60));
        due(99, c.count(9));
        due(0, c.count(2));
        due(0, c.count(6));
        due(100, c.count(4));
        // 90 was due; 150 of the house is the next one
        due(210, c.next(0, 0));
    }

    // a minute of the house that comes twice is due once
    static void noHouseMinuteIsDueTwice() {
        CinemaClock c = halfHours(0);
        due(1, c.clock(40));
        due(-20, c.jump(-20));
        due(0, c.clock(110));
        due(1, c.clock(111));
        began(c, 1, 0, 110, 110);
    }
}
