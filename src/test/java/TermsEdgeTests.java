/** The bounds that the Terms of the document name up to part 1: a test for each sentence, told above it. */
public final class TermsEdgeTests extends Checks {
    public static void main(String[] args) throws ReflectiveOperationException {
        runAll(TermsEdgeTests.class);
    }

    private static CinemaClock withTask(int kind, int a, int b) {
        CinemaClock c = new CinemaClock();
        due(0, c.task(kind, a, b));
        return c;
    }

    private static CinemaClock withForm(int form, int a, int b) {
        CinemaClock c = withTask(CALENDAR, 0, 0);
        due(1, c.calendar(0, form, a, b));
        return c;
    }

    /** A calendar task with a form that fits at the first minute of its days. */
    private static CinemaClock withDays(int form, int a, int b) {
        CinemaClock c = withForm(form, a, b);
        due(2, c.calendar(0, 1, 0, 0));
        due(3, c.calendar(0, 0, 0, 0));
        return c;
    }

    /** The days (from 0) of the next minutes that are due; NONE behind the last one. */
    private static void fitsOnDays(CinemaClock c, int... days) {
        int[] want = new int[days.length];
        int[] got = new int[days.length];
        for (int i = 0; i < days.length; i++) {
            want[i] = days[i] == NONE ? NONE : days[i] * 1440;
            got[i] = c.next(0, i);
        }
        same("minutes", want, got);
    }

    private static void fitsAt(CinemaClock c, int... minutes) {
        int[] got = new int[minutes.length];
        for (int i = 0; i < minutes.length; i++) got[i] = c.next(0, i);
        same("minutes", minutes, got);
    }

    // ---- minutes, and the house's minutes ----

    // "NOW is the first one that has not been TREATED, 0 at first."
    static void nowIsZeroAtFirst() {
        CinemaClock c = withTask(ONCE, 0, 0);
        due(0, c.count(4));
        due(0, c.next(0, 0));
        due(0, c.clock(0));
        due(0, c.count(1));
        due(1, c.clock(1));
        due(1, c.count(4));
        began(c, 0, 0, 0, 0);
    }

    // "THE HOUSE's minute is a MINUTE and the OFFSET (0 at first)."
    static void offsetIsZeroAtFirst() {
        CinemaClock c = withForm(0, 5, 0);
        due(0, c.count(5));
        due(5, c.next(0, 0));
        due(2, c.jump(2));
        due(3, c.next(0, 0));
        due(1, c.clock(4));
        began(c, 0, 0, 3, 3);
    }

    // "Minute 0 of the house is a Monday, January 1"
    static void minuteZeroIsMondayTheFirst() {
        CinemaClock c = new CinemaClock();
        int[] want = {1, 1, 0, 0, 0};
        for (int what = 0; what < 5; what++) due(want[what], c.day(0, what));
        CinemaClock d = withForm(3, 0, 0);
        due(2, d.calendar(0, 5, 1, 0));
        due(3, d.calendar(0, 8, 1, 0));
        due(0, d.next(0, 0));
    }

    // "of a year of 365 days"
    static void yearHas365Days() {
        CinemaClock c = new CinemaClock();
        int[] want = {12, 31, 23, 59, 0};
        for (int what = 0; what < 5; what++) due(want[what], c.day(365 * 1440 - 1, what));
        for (int what = 0; what < 5; what++) due(BAD, c.day(365 * 1440, what));
    }

    // "days have 1440 minutes"
    static void dayHas1440Minutes() {
        CinemaClock c = new CinemaClock();
        due(1, c.day(1439, 1));
        due(2, c.day(1440, 1));
        due(23, c.day(1439, 2));
        due(0, c.day(1440, 2));
        due(59, c.day(1439, 3));
        due(0, c.day(1440, 3));
    }

    // "months 31 28 31 30 31 30 31 31 30 31 30 31 days"
    static void monthsHaveTheirDays() {
        int[] days = {31, 28, 31, 30, 31, 30, 31, 31, 30, 31, 30, 31};
        CinemaClock c = new CinemaClock();
        int minute = 0;
        for (int m = 0; m < 12; m++) {
            due(m + 1, c.day(minute, 0));
            due(1, c.day(minute, 1));
            minute += days[m] * 1440;
            due(m + 1, c.day(minute - 1, 0));
            due(days[m], c.day(minute - 1, 1));
        }
        due(525600, minute);
    }

    // ---- tasks ----

    // "TASKS (60 at most, from 0)"
    static void sixtyTasksFromZero() {
        CinemaClock c = new CinemaClock();
        due(BAD, c.of(0, 0));
        for (int t = 0; t < 60; t++) due(t, c.task(AFTER, 0, 0));
        due(FULL, c.task(AFTER, 0, 0));
        due(4, c.of(59, 1));
        due(BAD, c.of(60, 1));
        due(60, c.count(0));
    }

    // "0 ONCE, due at minute a."
    static void onceIsDueOnce() {
        CinemaClock c = withTask(ONCE, 3, 1);
        due(0, c.clock(3));
        due(1, c.clock(4));
        due(0, c.clock(5000));
        due(0, c.count(6));
    }

    // "1 RATE, at a, a + b, a + 2 b and on."
    static void rateIsDueFromItsFirstMinuteOn() {
        CinemaClock c = withTask(RATE, 7, 3);
        due(0, c.clock(7));
        due(1, c.clock(8));
        due(0, c.clock(10));
        due(1, c.clock(11));
        due(0, c.clock(13));
        due(1, c.clock(14));
        // 1 is 6 less 5, but it is before a
        CinemaClock early = withTask(RATE, 6, 5);
        due(0, early.clock(6));
        due(1, early.clock(7));
        CinemaClock each = withTask(RATE, 0, 1);
        due(5, each.clock(5));
    }

    // "2 PAUSE, at a; then b minutes behind the end of each of its RUNS"
    static void pauseIsDueBehindItsEnds() {
        CinemaClock c = withTask(PAUSE, 2, 1);
        c.set(0, LENGTH, 3);
        due(0, c.clock(2));
        due(1, c.clock(3));
        due(NONE, c.next(0, 0));
        due(0, c.clock(5));
        due(NONE, c.next(0, 0));
        due(0, c.clock(6));
        due(6, c.next(0, 0));
        due(1, c.clock(7));
        began(c, 1, 0, 6, 6);
        CinemaClock far = withTask(PAUSE, 0, 100000);
        due(1, far.clock(2));
        due(100001, far.next(0, 0));
    }

    // "3 CALENDAR, at each MINUTE at which the house's minute FITS and is above HIGH"
    static void calendarIsDueAboveHighAlone() {
        CinemaClock c = withTask(CALENDAR, 0, 0);
        due(10, c.clock(10));
        due(-1, c.jump(-1));
        due(9, c.count(9));
        // the house's minute 9 again: it is HIGH itself
        due(0, c.clock(11));
        due(1, c.clock(12));
        began(c, 10, 0, 11, 11);
    }

    // "(HIGH: the greatest house's minute that was TREATED or jumped over, -1 at first)"
    static void highIsBelowMinuteZeroAtFirst() {
        CinemaClock c = withTask(CALENDAR, 0, 0);
        due(-1, c.count(9));
        due(0, c.next(0, 0));
        due(1, c.clock(1));
        due(0, c.count(9));
        CinemaClock jumped = new CinemaClock();
        due(1, jumped.jump(1));
        due(0, jumped.count(9));
        due(0, jumped.jump(-1));
        due(0, jumped.count(9));
        due(0, jumped.clock(1));
        due(0, jumped.count(9));
    }

    // "4 AFTER, as told in 2"
    static void afterIsNeverDueByItsKind() {
        CinemaClock c = withTask(AFTER, 0, 1);
        for (int i = 0; i < 10; i++) due(NONE, c.next(0, i));
        due(0, c.clock(100));
        due(1, c.quiet());
    }

    // "Each has a LENGTH (1 at first), a rank (0), a GROUP (NONE), rules for overlaps (0), misses (0), failures (0)"
    static void whatATaskIsToldAtFirst() {
        int[] want = {1, 0, NONE, 0, 0, 0};
        for (int kind = ONCE; kind <= AFTER; kind++) {
            CinemaClock c = withTask(kind, 0, 1);
            for (int what = LENGTH; what <= FAILURE; what++) due(want[what], c.set(0, what, want[what]));
        }
    }

    // "a BODY (act 0), and is ACTIVE till it is CANCELLED or STOPPED"
    static void aTaskIsActiveAtFirst() {
        for (int kind = ONCE; kind <= AFTER; kind++) {
            CinemaClock c = withTask(kind, 0, 1);
            due(0, c.of(0, 7));
            due(0, c.body(0, 0, 0, 0));
            due(0, c.of(0, 0));
            due(1, c.cancel(0, 0));
            due(STATE, c.cancel(0, 0));
        }
    }

    // ---- forms ----

    // "FORMS of a CALENDAR task (4 at most)"
    static void fourForms() {
        CinemaClock c = withForm(6, 0, 0);
        due(2, c.calendar(0, 6, 0, 0));
        due(3, c.calendar(0, 6, 0, 0));
        due(4, c.calendar(0, 2, 0, 23));
        due(FULL, c.calendar(0, 0, 7, 0));
        // the fifth is none
        due(30 * 1440, c.next(0, 0));
        // four of one task are none of another one's
        due(1, c.task(CALENDAR, 0, 0));
        due(1, c.calendar(1, 0, 7, 0));
    }

    // "a house's minute FITS, if it fits all of them"
    static void allFormsHaveToFit() {
        CinemaClock c = withForm(0, 59, 0);
        due(2, c.calendar(0, 1, 23, 0));
        due(3, c.calendar(0, 3, 6, 0));
        due(4, c.calendar(0, 5, 14, 0));
        due(13 * 1440 + 1439, c.next(0, 0));
        CinemaClock apart = withForm(3, 1, 0);
        due(2, apart.calendar(0, 4, 2, 0));
        due(NONE, apart.next(0, 0));
        due(0, apart.clock(5000));
        CinemaClock same = withForm(1, 4, 0);
        due(2, same.calendar(0, 2, 0, 4));
        due(3, same.calendar(0, 2, 4, 9));
        fitsAt(same, 240, 241);
    }

    // "(without any: each)"
    static void withoutFormsEachMinuteFits() {
        CinemaClock c = withTask(CALENDAR, 0, 0);
        fitsAt(c, 0, 1, 2, 3, 4, 5, 6, 7, 8, 9);
        due(70, c.clock(70));
    }

    // "0: the minute of its hour is a."
    static void form0() {
        fitsAt(withForm(0, 0, 0), 0, 60, 120);
        fitsAt(withForm(0, 59, 0), 59, 119, 179);
        fitsAt(withForm(0, 31, 0), 31, 91);
        CinemaClock late = withForm(0, 59, 0);
        due(23, late.clock(23 * 60 + 59));
        fitsAt(late, 1439, 1499);
    }

    // "1: its hour is a."
    static void form1() {
        CinemaClock first = withForm(1, 0, 0);
        due(60, first.clock(61));
        fitsAt(first, 1440, 1441);
        CinemaClock last = withForm(1, 23, 0);
        due(0, last.clock(23 * 60));
        due(1, last.clock(23 * 60 + 1));
        due(58, last.clock(1439));
        fitsAt(last, 1439, 1440 + 23 * 60);
    }

    // "2: its hour is a to b."
    static void form2() {
        CinemaClock one = withForm(2, 5, 5);
        due(60, one.clock(1440));
        began(one, 0, 0, 300, 300);
        began(one, 59, 0, 359, 359);
        CinemaClock two = withForm(2, 22, 23);
        due(120, two.clock(1440));
        began(two, 0, 0, 1320, 1320);
        due(1440 + 1320, two.next(0, 0));
        CinemaClock all = withForm(2, 0, 23);
        due(1440, all.clock(1440));
    }

    // "3: its weekday is a (0 Monday)."
    static void form3() {
        for (int a = 0; a < 7; a++) fitsOnDays(withDays(3, a, 0), a, a + 7, a + 14, a + 21, a + 28, a + 35);
        CinemaClock sunday = withForm(3, 6, 0);
        fitsAt(sunday, 6 * 1440);
        sunday.clock(5000);
        due(1440, sunday.clock(9999) + sunday.clock(10080));
        due(13 * 1440, sunday.next(0, 0));
    }

    // "4: its weekday is a to b, over Sunday, too (5 to 1: Saturday to Tuesday)."
    static void form4() {
        fitsOnDays(withDays(4, 5, 1), 0, 1, 5, 6, 7, 8, 12, 13, 14, 15);
        fitsOnDays(withDays(4, 6, 0), 0, 6, 7, 13, 14);
        fitsOnDays(withDays(4, 0, 6), 0, 1, 2, 3, 4, 5, 6, 7);
        fitsOnDays(withDays(4, 3, 2), 0, 1, 2, 3, 4, 5, 6, 7);
        fitsOnDays(withDays(4, 0, 0), 0, 7, 14);
        fitsOnDays(withDays(4, 6, 6), 6, 13, 20);
        fitsOnDays(withDays(4, 1, 5), 1, 2, 3, 4, 5, 8);
    }

    // "5: its day of the month is a (from 1)."
    static void form5() {
        fitsOnDays(withDays(5, 1, 0), 0, 31, 59, 90, 120, 151, 181, 212, 243, 273);
        fitsOnDays(withDays(5, 28, 0), 27, 58, 86);
        fitsOnDays(withDays(5, 29, 0), 28, 87, 118);
        fitsOnDays(withDays(5, 31, 0), 30, 89, 150, 211, 242, NONE);
    }

    // "6: its day is the last one of its month."
    static void form6() {
        fitsOnDays(withDays(6, 0, 0), 30, 58, 89, 119, 150, 180, 211, 242, 272, NONE);
        // to the last minute of the day
        CinemaClock c = withForm(6, 0, 0);
        due(2, c.calendar(0, 1, 23, 0));
        due(3, c.calendar(0, 0, 59, 0));
        fitsAt(c, 31 * 1440 - 1, 59 * 1440 - 1);
    }

    // "7: it is the a-th (1 .. 5) weekday b of its month."
    static void form7() {
        // January 1 is a Monday: the 7th is the first Sunday, the 8th the second Monday
        fitsOnDays(withDays(7, 1, 0), 0, 35, 63);
        fitsOnDays(withDays(7, 1, 6), 6, 34, 62);
        fitsOnDays(withDays(7, 2, 0), 7, 42);
        fitsOnDays(withDays(7, 4, 6), 27, 55);
        // February has no fifth one of any weekday
        fitsOnDays(withDays(7, 5, 0), 28, 119);
        fitsOnDays(withDays(7, 5, 2), 30, 149);
        CinemaClock never = withDays(7, 5, 1);
        due(4, never.calendar(0, 8, 2, 0));
        fitsOnDays(never, NONE);
    }

    // "8: its month is a (1 .. 12)."
    static void form8() {
        fitsOnDays(withDays(8, 1, 0), 0, 1, 2);
        fitsOnDays(withDays(8, 2, 0), 31, 32);
        fitsOnDays(withDays(8, 10, 0), 273, 274, 275, 276, 277, NONE);
        // these begin behind minute 400000
        fitsOnDays(withDays(8, 11, 0), NONE);
        fitsOnDays(withDays(8, 12, 0), NONE);
        CinemaClock last = withDays(8, 2, 0);
        due(4, last.calendar(0, 5, 28, 0));
        fitsOnDays(last, 58, NONE);
    }

    // ---- acts ----

    /** The cell that act 1 changes, with the y of a body. */
    private static void adds(int y, int cell) {
        CinemaClock c = withTask(ONCE, 0, 0);
        due(0, c.body(0, 1, 5, y));
        due(1, c.clock(2));
        for (int k = 0; k < 8; k++) due(k == cell ? 5 : 0, c.cell(k));
    }

    // "ACTS of BODIES, with numbers x, y, over CELLS 0 .. 7": y & 7
    static void cellsAreTakenByTheLowBits() {
        adds(0, 0);
        adds(7, 7);
        adds(8, 0);
        adds(15, 7);
        adds(-1, 7);
        adds(-8, 0);
        adds(LEAST, 0);
        adds(MOST, 7);
    }

    // "(ints that wrap, 0 at first)"
    static void cellsAreZeroAtFirst() {
        CinemaClock c = new CinemaClock();
        for (int k = 0; k < 8; k++) due(0, c.cell(k));
    }

    // "(ints that wrap ..)", by act 1
    static void cellsWrapUpAndDown() {
        CinemaClock c = withTask(RATE, 0, 1);
        c.body(0, 1, MOST, 0);
        due(2, c.clock(2));
        due(MOST, c.cell(0));
        c.body(0, 1, 1, 0);
        due(1, c.clock(3));
        due(LEAST, c.cell(0));
        c.body(0, 1, -1, 0);
        due(1, c.clock(4));
        due(MOST, c.cell(0));
        c.body(0, 1, LEAST, 0);
        due(2, c.clock(6));
        due(MOST, c.cell(0));
    }

    // "(ints that wrap ..)", by act 2: "CELL y & 7 becomes x times it and the RUN's number"
    static void cellsWrapInProducts() {
        CinemaClock c = withTask(RATE, 0, 1);
        c.body(0, 1, 65536, 3);
        due(2, c.clock(2));
        due(65536, c.cell(3));
        due(1, c.body(0, 2, 65536, 3));
        due(1, c.clock(3));
        due(1, c.cell(3));
        due(1, c.clock(4));
        due(65538, c.cell(3));
        due(2, c.body(0, 2, LEAST, 3));
        due(1, c.clock(5));
        due(3, c.cell(3));
        due(1, c.clock(6));
        due(LEAST + 4, c.cell(3));
        due(2, c.body(0, 2, -1, 3));
        due(1, c.clock(7));
        due(LEAST + 1, c.cell(3));
    }

    // "2: .. the RUN's number": of all runs, from 0
    static void actTwoTakesTheNumberOfAllRuns() {
        CinemaClock c = new CinemaClock();
        c.workers(2);
        c.task(RATE, 0, 1);
        c.task(ONCE, 2, 0);
        c.body(1, 2, 10, 0);
        due(5, c.clock(4));
        began(c, 3, 1, 2, 2);
        due(3, c.cell(0));
        CinemaClock first = withTask(ONCE, 0, 0);
        first.body(0, 2, 10, 0);
        due(1, first.clock(2));
        due(0, first.cell(0));
    }

    /** A run whose body is act 3, over a cell that was made what it is to be. */
    private static CinemaClock judged(int cell, int x) {
        CinemaClock c = new CinemaClock();
        c.task(ONCE, 0, 0);
        c.body(0, 1, cell, 4);
        c.task(ONCE, 2, 0);
        c.body(1, 3, x, 4 + 8);
        due(2, c.clock(4));
        due(cell, c.cell(4));
        return c;
    }

    // "3: the RUN FAILS with KIND x & 15, if CELL y & 7 is odd."
    static void actThreeFailsForOddCells() {
        ended(judged(1, 7), 1, 3, 2, 7);
        ended(judged(-1, 7), 1, 3, 2, 7);
        ended(judged(MOST, 7), 1, 3, 2, 7);
        ended(judged(0, 7), 1, 3, 1, NONE);
        ended(judged(2, 7), 1, 3, 1, NONE);
        ended(judged(-2, 7), 1, 3, 1, NONE);
        ended(judged(LEAST, 7), 1, 3, 1, NONE);
    }

    // "KIND x & 15"
    static void actThreeTakesTheLowBitsOfX() {
        ended(judged(1, 0), 1, 3, 2, 0);
        ended(judged(1, 15), 1, 3, 2, 15);
        ended(judged(1, 16), 1, 3, 2, 0);
        ended(judged(1, -1), 1, 3, 2, 15);
        ended(judged(1, LEAST), 1, 3, 2, 0);
        ended(judged(1, MOST), 1, 3, 2, 15);
    }

    // "4: CELL y & 7 becomes the MINUTE."
    static void actFourTakesTheMinuteNotTheHouses() {
        CinemaClock c = withTask(RATE, 0, 5);
        c.body(0, 4, 99, 8 + 2);
        c.set(0, LENGTH, 2);
        due(1, c.clock(3));
        due(2, c.cell(2));
        due(720, c.jump(720));
        due(1, c.clock(8));
        due(7, c.cell(2));
    }

    /** The kind with which a run fails that does act 5 or 6 on a task. */
    private static int kindOfActOn(int act, int x, int cancelled) {
        CinemaClock c = withTask(ONCE, 0, 0);
        due(1, c.task(RATE, 100, 1));
        due(2, c.task(ONCE, 100, 0));
        if (cancelled >= 0) due(1, c.cancel(cancelled, 0));
        c.body(0, act, x, 0);
        due(1, c.clock(2));
        return c.run(0, 5);
    }

    // "5: task x is CANCELLED as by cancel(x, 0); if there is no such .. the RUN FAILS with KIND 14."
    static void actFiveOnNoTask() {
        for (int x : new int[] {-1, 3, 60, LEAST, MOST}) due(14, kindOfActOn(5, x, NONE));
        for (int x : new int[] {0, 1, 2}) due(NONE, kindOfActOn(5, x, NONE));
    }

    // "5: .. or it is not ACTIVE, the RUN FAILS with KIND 14."
    static void actFiveOnATaskThatIsNotActive() {
        due(14, kindOfActOn(5, 1, 1));
        due(14, kindOfActOn(5, 2, 2));
        due(NONE, kindOfActOn(5, 1, 2));
        // one that is STOPPED
        CinemaClock c = new CinemaClock();
        c.task(ONCE, 0, 0);
        c.plan(0, 1, 3);
        c.task(ONCE, 1, 0);
        c.body(1, 5, 0, 0);
        due(2, c.clock(3));
        due(4, c.of(0, 0));
        ended(c, 1, 2, 2, 14);
    }

    // "5: task x is CANCELLED as by cancel(x, 0)": its runs at work go on
    static void actFiveLeavesRunsAtWork() {
        CinemaClock c = new CinemaClock();
        c.workers(2);
        c.task(ONCE, 0, 0);
        c.body(0, 5, 1, 0);
        c.task(RATE, 0, 1);
        c.set(1, LENGTH, 3);
        c.set(1, OVERLAP, 1);
        c.body(1, 1, 9, 0);
        due(2, c.clock(1));
        due(0, c.clock(2));
        due(3, c.of(1, 0));
        due(1, c.count(3));
        due(0, c.count(2));
        due(0, c.clock(4));
        ended(c, 1, 3, 1, NONE);
        due(9, c.cell(0));
    }

    // "6: task x is FIRED: it is due at the next MINUTE besides"
    static void firedIsDueAtTheNextMinute() {
        CinemaClock c = withTask(ONCE, 0, 0);
        due(1, c.task(AFTER, 0, 0));
        c.body(0, 6, 1, 0);
        due(1, c.clock(1));
        due(0, c.clock(2));
        due(0, c.count(2));
        due(1, c.clock(3));
        began(c, 1, 1, 2, 2);
        due(0, c.clock(50));
    }

    // "(once, however often)"
    static void firedTwiceIsDueOnce() {
        CinemaClock c = new CinemaClock();
        c.workers(8);
        for (int t = 0; t < 3; t++) {
            c.task(ONCE, 0, 0);
            c.body(t, 6, 3, 0);
        }
        c.task(AFTER, 0, 0);
        c.set(3, OVERLAP, 2);
        due(3, c.clock(2));
        due(1, c.clock(3));
        due(0, c.count(2));
        due(1, c.of(3, 2));
    }

    // "6: .. KIND 14 likewise": no such task
    static void actSixOnNoTask() {
        for (int x : new int[] {-1, 3, 60, LEAST, MOST}) due(14, kindOfActOn(6, x, NONE));
        for (int x : new int[] {0, 1, 2}) due(NONE, kindOfActOn(6, x, NONE));
    }

    // "6: .. KIND 14 likewise": it is not ACTIVE
    static void actSixOnATaskThatIsNotActive() {
        due(14, kindOfActOn(6, 1, 1));
        due(14, kindOfActOn(6, 2, 2));
        due(NONE, kindOfActOn(6, 1, 2));
        // it isn't due, either
        CinemaClock c = withTask(ONCE, 0, 0);
        c.task(AFTER, 0, 0);
        c.body(0, 6, 1, 0);
        due(1, c.cancel(1, 0));
        due(1, c.clock(9));
        due(0, c.of(1, 2));
    }

    // "it is due at the next MINUTE besides": a task fired while it is fired for this minute
    static void firedForTwoMinutesOnEnd() {
        CinemaClock c = new CinemaClock();
        c.workers(3);
        c.task(ONCE, 0, 0);
        c.task(ONCE, 1, 0);
        c.task(AFTER, 0, 0);
        c.body(0, 6, 2, 0);
        c.body(1, 6, 2, 0);
        due(2, c.clock(2));
        due(0, c.quiet());
        due(1, c.clock(3));
        due(0, c.quiet());
        due(1, c.clock(4));
        began(c, 2, 2, 2, 2);
        began(c, 3, 2, 3, 3);
        due(0, c.clock(5));
        due(1, c.quiet());
    }
}
