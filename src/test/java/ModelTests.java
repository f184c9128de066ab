import java.util.ArrayList;
import java.util.List;

/** Long rows of calls, the same each time, on CinemaClock and on a slow program written from the document. */
public final class ModelTests {
    private static final int ROWS = 250, CALLS = 220;

    public static void main(String[] args) {
        int rows = args.length > 0 ? Integer.parseInt(args[0]) : ROWS;
        for (int seed = 1; seed <= rows; seed++) {
            if (!new Caller(seed).agrees()) System.exit(1);
        }
        System.out.println("ModelTests: " + rows + " rows of " + CALLS + " calls agree");
    }

    /** The house as the document tells it, without any shortening. */
    private static final class Model {
        final List<int[]> tasks = new ArrayList<>();
        final List<List<int[]>> forms = new ArrayList<>();
        final List<List<int[]>> notes = new ArrayList<>();
        final List<int[]> dues = new ArrayList<>();
        final List<int[]> runs = new ArrayList<>();
        final List<int[]> book = new ArrayList<>();
        final List<int[]> plans = new ArrayList<>();
        final List<Integer> groups = new ArrayList<>();
        int[] idle = new int[1];
        int[] cells = new int[8];
        int now = 0, offset = 0, high = -1;
        boolean stopped = false;

        // places in a task's row
        static final int KIND = 0, A = 1, B = 2, TOLD = 3, ACT = 9, X = 10, Y = 11, STATE = 12, NEXT = 13;
        static final int RESTS = 14, FAILS = 15, BEGAN = 16, SKIPPED = 17, FIRED = 18, FIRED_TOO = 19;
        // places in a run's row behind the eight of run()
        static final int END = 8, TIME = 9;

        boolean has(int t) {
            return t >= 0 && t < tasks.size();
        }

        int workers(int n) {
            if (n < 1 || n > 8) return -2;
            if (atWork(-1) > 0) return -3;
            idle = new int[n];
            return n;
        }

        int group(int most) {
            if (most < 1 || most > 8) return -2;
            if (groups.size() == 8) return -4;
            groups.add(most);
            return groups.size() - 1;
        }

        int task(int kind, int a, int b) {
            if (kind < 0 || kind > 4) return -2;
            if (kind < 3 && (a < now || a > 400000)) return -2;
            if ((kind == 1 || kind == 2) && (b < 1 || b > 100000)) return -2;
            if (tasks.size() == 60) return -4;
            int[] t = new int[20];
            t[KIND] = kind;
            t[A] = a;
            t[B] = b;
            t[TOLD] = 1;
            t[TOLD + 2] = -1;
            t[NEXT] = kind == 2 ? a : -1;
            t[RESTS] = -1;
            t[FIRED] = -1;
            t[FIRED_TOO] = -1;
            tasks.add(t);
            forms.add(new ArrayList<>());
            notes.add(new ArrayList<>());
            return tasks.size() - 1;
        }

        int set(int task, int what, int v) {
            if (!has(task) || what < 0 || what > 5) return -2;
            int[] least = {1, 0, -1, 0, 0, 0};
            int[] most = {120, 9, groups.size() - 1, 2, 2, 2};
            if (v < least[what] || v > most[what]) return -2;
            int before = tasks.get(task)[TOLD + what];
            tasks.get(task)[TOLD + what] = v;
            return before;
        }

        int calendar(int task, int form, int a, int b) {
            if (!has(task) || tasks.get(task)[KIND] != 3) return -2;
            boolean good;
            switch (form) {
                case 0: good = a >= 0 && a <= 59; break;
                case 1: good = a >= 0 && a <= 23; break;
                case 2: good = a >= 0 && a <= b && b <= 23; break;
                case 3: good = a >= 0 && a <= 6; break;
                case 4: good = a >= 0 && a <= 6 && b >= 0 && b <= 6; break;
                case 5: good = a >= 1 && a <= 31; break;
                case 6: good = true; break;
                case 7: good = a >= 1 && a <= 5 && b >= 0 && b <= 6; break;
                case 8: good = a >= 1 && a <= 12; break;
                default: good = false;
            }
            if (!good) return -2;
            if (forms.get(task).size() == 4) return -4;
            forms.get(task).add(new int[] {form, a, b});
            return forms.get(task).size();
        }

        int body(int task, int act, int x, int y) {
            if (!has(task) || act < 0 || act > 6) return -2;
            int[] t = tasks.get(task);
            int before = t[ACT];
            t[ACT] = act;
            t[X] = x;
            t[Y] = y;
            return before;
        }

        boolean reaches(int from, int to) {
            if (from == to) return true;
            for (int[] note : notes.get(from)) if (reaches(note[0], to)) return true;
            return false;
        }

        int after(int task, int other, int how) {
            if (!has(task) || !has(other) || task == other || tasks.get(task)[KIND] != 4) return -2;
            if (how < 0 || how > 2) return -2;
            if (reaches(other, task)) return -3;
            if (notes.get(task).size() == 4) return -4;
            notes.get(task).add(new int[] {other, how});
            return notes.get(task).size();
        }

        int plan(int task, int time, int kind) {
            if (!has(task) || time < 1 || time > 50 || kind < 0 || kind > 15) return -2;
            for (int[] p : plans) {
                if (p[0] == task && p[1] == time) {
                    p[2] = kind;
                    return plans.size();
                }
            }
            if (plans.size() == 40) return -4;
            plans.add(new int[] {task, time, kind});
            return plans.size();
        }

        int clearPlan() {
            int n = plans.size();
            plans.clear();
            return n;
        }

        int atWork(int task) {
            int n = 0;
            for (int[] r : runs) if (r[4] == 0 && (task < 0 || r[0] == task)) n++;
            return n;
        }

        int load(int group) {
            int n = 0;
            for (int[] r : runs) if (r[4] == 0 && r[7] == group) n++;
            return n;
        }

        int waits(int task) {
            int n = 0;
            for (int[] d : dues) if (d[0] == task) n++;
            return n;
        }

        int clock(int minute) {
            if (minute < now || minute > now + 5000 || minute > 400000) return -2;
            int before = runs.size();
            while (now < minute) treat();
            return runs.size() - before;
        }

        void treat() {
            for (int[] r : runs) if (r[4] == 0 && r[END] == now) end(r);
            for (int t = 0; t < tasks.size(); t++) {
                int[] task = tasks.get(t);
                if (task[STATE] != 0) continue;
                if (dueByKind(t, now)) {
                    if (task[KIND] == 2) task[NEXT] = -1;
                    come(t);
                }
                if (task[FIRED] == now || task[FIRED_TOO] == now) come(t);
            }
            if (now + offset > high) high = now + offset;
            for (int[] d : new ArrayList<>(dues)) {
                int[] task = tasks.get(d[0]);
                if (d[2] == 1 || now - d[1] <= task[TOLD]) continue;
                int rule = task[TOLD + 4];
                if (rule == 0 || rule == 1 && waits(d[0]) > 1) {
                    book.add(new int[] {d[0], d[1], rule});
                    dues.remove(d);
                    if (task[KIND] == 2) task[NEXT] = now + task[B];
                } else {
                    d[2] = 1;
                    book.add(new int[] {d[0], d[1], 2});
                }
            }
            while (begin()) { }
            for (int w = 0; w < idle.length; w++) if (isFree(w)) idle[w]++;
            now++;
        }

        boolean isFree(int worker) {
            for (int[] r : runs) if (r[4] == 0 && r[6] == worker) return false;
            return true;
        }

        boolean begin() {
            int worker = 0;
            while (worker < idle.length && !isFree(worker)) worker++;
            if (worker == idle.length || runs.size() == 2000) return false;
            int[] best = null;
            for (int[] d : dues) {
                int[] t = tasks.get(d[0]);
                if (t[TOLD + 3] != 2 && atWork(d[0]) > 0) continue;
                if (t[TOLD + 2] >= 0 && load(t[TOLD + 2]) >= groups.get(t[TOLD + 2])) continue;
                if (best == null || better(d, best)) best = d;
            }
            if (best == null) return false;
            int[] t = tasks.get(best[0]);
            t[BEGAN]++;
            runs.add(new int[] {best[0], best[1], now, -1, 0, -1, worker, t[TOLD + 2], now + t[TOLD], t[BEGAN]});
            dues.remove(best);
            return true;
        }

        boolean better(int[] d, int[] e) {
            int rank = tasks.get(d[0])[TOLD + 1] - tasks.get(e[0])[TOLD + 1];
            if (rank != 0) return rank > 0;
            if (d[1] != e[1]) return d[1] < e[1];
            return d[0] < e[0];
        }

        boolean dueByKind(int t, int minute) {
            int[] task = tasks.get(t);
            switch (task[KIND]) {
                case 0: return minute == task[A];
                case 1: return minute >= task[A] && (minute - task[A]) % task[B] == 0;
                case 2: return minute == task[NEXT];
                case 3: return minute + offset > high && fits(t, minute + offset);
                default: return false;
            }
        }

        void come(int t) {
            int[] task = tasks.get(t);
            if (stopped) {
                book.add(new int[] {t, now, 4});
            } else if (task[RESTS] > now) {
                book.add(new int[] {t, now, 5});
            } else if (task[TOLD + 3] == 0 && atWork(t) > 0) {
                task[SKIPPED]++;
            } else if (dues.size() == 100) {
                book.add(new int[] {t, now, 6});
            } else {
                dues.add(new int[] {t, now, 0});
                return;
            }
            if (task[KIND] == 2) task[NEXT] = now + task[B];
        }

        void end(int[] r) {
            int[] task = tasks.get(r[0]);
            int failure = -1;
            boolean planned = false;
            for (int[] p : plans) {
                if (p[0] == r[0] && p[1] == r[TIME]) {
                    failure = p[2];
                    planned = true;
                }
            }
            if (!planned) failure = act(task, runs.indexOf(r));
            r[3] = now;
            r[4] = failure < 0 ? 1 : 2;
            r[5] = failure;
            boolean active = task[STATE] == 0;
            if (active && task[KIND] == 2) task[NEXT] = now + task[B];
            if (failure < 0) {
                task[FAILS] = 0;
            } else {
                task[FAILS]++;
                if (active && task[TOLD + 5] == 0) leave(r[0], 4);
                if (active && task[TOLD + 5] == 2) {
                    int rest = 1;
                    for (int f = 1; f < task[FAILS] && rest < 64; f++) rest *= 2;
                    if (task[KIND] == 2) task[NEXT] += rest; else task[RESTS] = now + rest;
                }
            }
            tell(r[0], failure < 0);
        }

        int act(int[] task, int number) {
            int c = task[Y] & 7;
            int x = task[X];
            if (task[ACT] == 1) cells[c] = cells[c] + x;
            if (task[ACT] == 2) cells[c] = cells[c] * x + number;
            if (task[ACT] == 3 && cells[c] % 2 != 0) return x & 15;
            if (task[ACT] == 4) cells[c] = now;
            if (task[ACT] == 5 || task[ACT] == 6) {
                if (!has(x) || tasks.get(x)[STATE] != 0) return 14;
                if (task[ACT] == 5) {
                    leave(x, 3);
                } else if (now % 2 == 0) {
                    tasks.get(x)[FIRED] = now + 1;
                } else {
                    tasks.get(x)[FIRED_TOO] = now + 1;
                }
            }
            return -1;
        }

        void leave(int t, int state) {
            tasks.get(t)[STATE] = state;
            dues.removeIf(d -> d[0] == t);
        }

        void tell(int ended, boolean good) {
            for (int t = 0; t < tasks.size(); t++) {
                if (tasks.get(t)[STATE] != 0 || tasks.get(t)[KIND] != 4) continue;
                boolean fit = false;
                for (int[] n : notes.get(t)) {
                    if (n[0] == ended && (n[1] == 2 || n[1] == (good ? 0 : 1))) fit = true;
                }
                if (fit) come(t);
            }
        }

        int jump(int j) {
            if (j < -720 || j > 720 || j == 0) return -2;
            if (offset + j < -1440 || offset + j > 1440 || now + offset + j < 0) return -2;
            if (j > 0) {
                int first = now + offset;
                for (int t = 0; t < tasks.size(); t++) {
                    if (tasks.get(t)[STATE] != 0 || tasks.get(t)[KIND] != 3) continue;
                    boolean some = false;
                    int rule = tasks.get(t)[TOLD + 4];
                    for (int h = first; h < first + j; h++) {
                        if (h <= high || !fits(t, h)) continue;
                        if (rule == 0) book.add(new int[] {t, h, 3});
                        if (rule == 2 || rule == 1 && !some) come(t);
                        some = true;
                    }
                }
                if (first + j - 1 > high) high = first + j - 1;
            }
            offset += j;
            return offset;
        }

        void interrupt(int[] r) {
            r[3] = now;
            r[4] = 3;
            tell(r[0], false);
        }

        int cancel(int task, int how) {
            if (!has(task) || how < 0 || how > 1) return -2;
            if (tasks.get(task)[STATE] != 0) return -3;
            leave(task, 3);
            if (how == 1) for (int[] r : runs) if (r[4] == 0 && r[0] == task) interrupt(r);
            return 1;
        }

        int stop(int how) {
            if (how < 0 || how > 1) return -2;
            if (stopped) return -3;
            stopped = true;
            if (how == 0) return 1;
            for (int[] d : dues) {
                book.add(new int[] {d[0], d[1], 4});
                pauseAgain(d[0]);
            }
            dues.clear();
            for (int[] r : runs) {
                if (r[4] == 0) {
                    interrupt(r);
                    pauseAgain(r[0]);
                }
            }
            return 1;
        }

        void pauseAgain(int t) {
            int[] task = tasks.get(t);
            if (task[KIND] == 2 && task[STATE] == 0) task[NEXT] = now + task[B];
        }

        int go() {
            if (!stopped) return -3;
            stopped = false;
            return 1;
        }

        int run(int i, int what) {
            return i < 0 || i >= runs.size() || what < 0 || what > 7 ? -2 : runs.get(i)[what];
        }

        int of(int task, int what) {
            if (!has(task)) return -2;
            int[] t = tasks.get(task);
            switch (what) {
                case 0:
                    if (t[STATE] != 0) return t[STATE];
                    if (atWork(task) > 0) return 1;
                    return t[KIND] == 0 && t[A] < now && waits(task) == 0 ? 2 : 0;
                case 1: return t[KIND];
                case 2: return t[BEGAN];
                case 3: return t[SKIPPED];
                case 4: return waits(task);
                case 5: return t[FAILS];
                case 6: return t[RESTS] > now ? t[RESTS] : -1;
                case 7: return t[ACT];
                default: return -2;
            }
        }

        int next(int task, int i) {
            if (!has(task) || i < 0 || i > 9) return -2;
            int found = 0;
            int[] t = tasks.get(task);
            if (t[KIND] == 4 || t[KIND] == 0 && i > 0 || t[KIND] == 2 && i > 0) return -1;
            for (int m = now; m <= 400000; m++) {
                if (dueByKind(task, m)) {
                    if (found == i) return m;
                    found++;
                }
            }
            return -1;
        }

        int waiting(int i, int what) {
            if (what < 0 || what > 2) return -2;
            return i < 0 || i >= dues.size() ? -1 : dues.get(i)[what];
        }

        int book(int i, int what) {
            if (what < 0 || what > 2) return -2;
            return i < 0 || i >= 300 || i >= book.size() ? -1 : book.get(i)[what];
        }

        int count(int what) {
            int[] all = {tasks.size(), runs.size(), dues.size(), atWork(-1), now, offset, book.size(),
                groups.size(), idle.length, high, stopped ? 1 : 0};
            return what < 0 || what >= all.length ? -2 : all[what];
        }

        int cell(int c) {
            return c < 0 || c > 7 ? 0 : cells[c];
        }

        /** month, day, hour, minute, weekday: counted up from the first of January, day by day. */
        static int[] date(int minute) {
            int[] lengths = {31, 28, 31, 30, 31, 30, 31, 31, 30, 31, 30, 31};
            int month = 1;
            int day = 1;
            for (int d = 0; d < minute / 1440; d++) {
                day++;
                if (day > lengths[month - 1]) {
                    day = 1;
                    month++;
                }
            }
            int last = day == lengths[month - 1] ? 1 : 0;
            return new int[] {month, day, minute % 1440 / 60, minute % 60, minute / 1440 % 7, last};
        }

        private static final int[][] DATES = new int[365][];

        static int[] dateOfDay(int day) {
            if (DATES[day] == null) DATES[day] = date(day * 1440);
            return DATES[day];
        }

        boolean fits(int t, int house) {
            int[] d = dateOfDay(house / 1440);
            int hour = house % 1440 / 60;
            for (int[] f : forms.get(t)) {
                boolean fit;
                switch (f[0]) {
                    case 0: fit = house % 60 == f[1]; break;
                    case 1: fit = hour == f[1]; break;
                    case 2: fit = hour >= f[1] && hour <= f[2]; break;
                    case 3: fit = d[4] == f[1]; break;
                    case 4: fit = (d[4] - f[1] + 7) % 7 <= (f[2] - f[1] + 7) % 7; break;
                    case 5: fit = d[1] == f[1]; break;
                    case 6: fit = d[5] == 1; break;
                    case 7: fit = d[4] == f[2] && d[1] > (f[1] - 1) * 7 && d[1] <= f[1] * 7; break;
                    default: fit = d[0] == f[1]; break;
                }
                if (!fit) return false;
            }
            return true;
        }

        int day(int minute, int what) {
            return minute < 0 || minute > 525599 || what < 0 || what > 4 ? -2 : date(minute)[what];
        }

        int idle(int worker) {
            return worker < 0 || worker >= idle.length ? -2 : idle[worker];
        }

        int loadOf(int group) {
            return group < 0 || group >= groups.size() ? -2 : load(group);
        }

        int quiet() {
            if (atWork(-1) > 0 || !dues.isEmpty()) return 0;
            for (int t = 0; t < tasks.size(); t++) {
                int[] task = tasks.get(t);
                if (task[STATE] != 0) continue;
                if (task[FIRED] == now || task[FIRED_TOO] == now || next(t, 0) != -1) return 0;
            }
            return 1;
        }
    }

    /** Makes a row of calls from a seed, on both programs. */
    private static final class Caller {
        final Model model = new Model();
        final CinemaClock real = new CinemaClock();
        final StringBuilder told = new StringBuilder();
        final int seed;
        final boolean crowded;
        final boolean far;
        final int most;
        long state;
        boolean right = true;

        Caller(int seed) {
            this.seed = seed;
            this.state = seed * 7919L + 17;
            this.crowded = seed % 5 == 0;
            this.far = seed % 7 == 0;
            this.most = seed % 9 == 0 ? 70 : 3 + seed % 12;
        }

        int any(int n) {
            state = state * 6364136223846793005L + 1442695040888963407L;
            return (int) ((state >>> 33) % n);
        }

        int some(int least, int most) {
            if (any(30) == 0) return any(2) == 0 ? least - 1 : most + 1;
            if (any(60) == 0) return any(2) == 0 ? Integer.MIN_VALUE : Integer.MAX_VALUE;
            return least + any(most - least + 1);
        }

        void same(String call, int got, int want) {
            if (got == want) return;
            if (right) {
                System.out.println("row " + seed + " of the model: " + told);
                System.out.println(call + " answered " + got + ", due is " + want);
            }
            right = false;
        }

        boolean agrees() {
            for (int n = 0; n < CALLS && right; n++) {
                if (n < 25 || any(6) == 0) build(); else live();
                compare();
            }
            for (int i = 0; i < model.runs.size() && right; i++) compareRun(i);
            return right;
        }

        int aTask() {
            return some(0, Math.max(model.tasks.size() - 1, 0));
        }

        void call(String name, int got, int want, int... args) {
            told.append('\n').append(name);
            for (int a : args) told.append(' ').append(a);
            told.append(" -> ").append(want);
            same(name, got, want);
        }

        void build() {
            int t = aTask();
            int v = any(100);
            if (v < 6) {
                int n = some(1, 8);
                call("workers", real.workers(n), model.workers(n), n);
            } else if (v < 10) {
                int n = some(1, 4);
                call("group", real.group(n), model.group(n), n);
            } else if (v < 40) {
                if (model.tasks.size() >= most) return;
                int kind = some(0, 4);
                int a = model.now + some(0, 60);
                int b = crowded ? some(1, 4) : some(1, 90);
                call("task", real.task(kind, a, b), model.task(kind, a, b), kind, a, b);
            } else if (v < 62) {
                int what = some(0, 5);
                int x = what == 0 ? some(1, crowded ? 60 : 12) : what == 1 ? some(0, 9) : what == 2 ? some(-1, model.groups.size() - 1) : some(0, 2);
                call("set", real.set(t, what, x), model.set(t, what, x), t, what, x);
            } else if (v < 74) {
                int[] firsts = {60, 24, 24, 7, 7, 32, 1, 6, 13};
                int form = some(0, 8);
                if (any(2) == 0) form = any(2);
                int a = any(40) == 0 ? some(-1, 70) : any(form >= 0 && form <= 8 ? firsts[form] : 9);
                int b = form == 2 ? any(26) : any(8) - any(2);
                call("calendar", real.calendar(t, form, a, b), model.calendar(t, form, a, b), t, form, a, b);
            } else if (v < 86) {
                int act = some(0, 6);
                int x = act >= 5 ? aTask() : any(3) == 0 ? some(-9, 99) : any(4);
                int y = some(-3, 12);
                call("body", real.body(t, act, x, y), model.body(t, act, x, y), t, act, x, y);
            } else if (v < 95) {
                int other = aTask();
                int how = some(0, 2);
                call("after", real.after(t, other, how), model.after(t, other, how), t, other, how);
            } else if (v < 99) {
                int time = any(2) == 0 ? some(1, 50) : some(1, 5);
                int kind = some(0, 15);
                call("plan", real.plan(t, time, kind), model.plan(t, time, kind), t, time, kind);
            } else {
                call("clearPlan", real.clearPlan(), model.clearPlan());
            }
        }

        void live() {
            int v = any(100);
            if (v < 70) {
                int minute = model.now + (far && any(4) == 0 ? any(1000) : any(3) == 0 ? any(60) : any(8)) - (any(50) == 0 ? 1 : 0);
                if (any(80) == 0) minute = model.now + 5001;
                call("clock", real.clock(minute), model.clock(minute), minute);
            } else if (v < 86) {
                int j = any(3) == 0 ? some(-720, 720) : some(-70, 70);
                call("jump", real.jump(j), model.jump(j), j);
            } else if (v < 91) {
                int t = aTask();
                int how = some(0, 1);
                call("cancel", real.cancel(t, how), model.cancel(t, how), t, how);
            } else if (v < 94) {
                int how = some(0, 1);
                call("stop", real.stop(how), model.stop(how), how);
            } else {
                call("go", real.go(), model.go());
            }
        }

        void compareRun(int i) {
            for (int what = -1; what <= 8; what++) same("run " + i + " " + what, real.run(i, what), model.run(i, what));
        }

        void compare() {
            for (int what = -1; what <= 11; what++) same("count " + what, real.count(what), model.count(what));
            for (int t = -1; t <= model.tasks.size(); t++) {
                for (int what = -1; what <= 8; what++) same("of " + t + " " + what, real.of(t, what), model.of(t, what));
            }
            for (int i = -1; i <= model.dues.size(); i++) {
                for (int what = -1; what <= 3; what++) same("waiting " + i + " " + what, real.waiting(i, what), model.waiting(i, what));
            }
            int rows = model.book.size();
            for (int i = any(4) == 0 ? 0 : Math.max(-1, rows - 30); i <= Math.min(rows, 301); i++) {
                for (int what = -1; what <= 3; what++) same("book " + i + " " + what, real.book(i, what), model.book(i, what));
            }
            for (int i = Math.max(-1, model.runs.size() - 12); i <= model.runs.size(); i++) compareRun(i);
            for (int c = -1; c <= 8; c++) {
                same("cell " + c, real.cell(c), model.cell(c));
                same("idle " + c, real.idle(c), model.idle(c));
                same("load " + c, real.load(c), model.loadOf(c));
            }
            int minute = some(0, 525599);
            for (int what = -1; what <= 5; what++) same("day " + minute + " " + what, real.day(minute, what), model.day(minute, what));
            int t = aTask();
            int i = some(0, 9);
            if (any(12) == 0) same("next " + t + " " + i, real.next(t, i), model.next(t, i));
            for (int p = 0; p < model.tasks.size(); p++) {
                if (model.tasks.get(p)[0] == 2) same("next " + p, real.next(p, 0), pauseMinute(p));
            }
            if (any(16) == 0) same("quiet", real.quiet(), model.quiet());
        }

        int pauseMinute(int task) {
            int minute = model.tasks.get(task)[13];
            return minute < model.now || minute > 400000 ? -1 : minute;
        }
    }
}
