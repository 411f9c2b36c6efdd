import java.util.ArrayDeque;
import java.util.ArrayList;
import java.util.Arrays;
import java.util.List;

/**
 * The document once more, written apart from TurnHall with the library's collections, everything done on the spot and
 * recursively, and everything counted when it is asked for: ModelTest holds the two against each other.
 */
final class PlainHall {
    record Step(int op, long a, long b) {
    }

    private static final class Call {
        final int program;
        int place = 0;
        int handler = -1;

        Call(int program) {
            this.program = program;
        }
    }

    private static final class Fault extends Exception {
        private static final long serialVersionUID = 1L;
        final int number;

        Fault(int number) {
            super(null, null, false, false);
            this.number = number;
        }
    }

    private final class T {
        final int id = threads.size();
        final ArrayDeque<Call> calls = new ArrayDeque<>();
        long[] r = new long[4];
        int state = 0;
        boolean mark;
        boolean permit;
        int fault;
        int steps;
        Long due = null;
        int began;
        int at;
        long want;
        boolean write;
        boolean interrupted;
        final int[] reading = new int[8];

        boolean ended() {
            return state >= 9;
        }

        void finish(int by) {
            calls.clear();
            fault = by;
            state = by == 0 ? 9 : 10;
            due = null;
            for (T t : threads) {
                if (t.state == 4 && t.at == id) {
                    t.on();
                }
            }
        }

        void leaveDoneCalls() {
            while (!calls.isEmpty() && calls.peek().place >= programs.get(calls.peek().program).size()) {
                calls.pop();
            }
            if (calls.isEmpty()) {
                finish(0);
            }
        }

        void on() {
            state = 0;
            due = null;
            leaveDoneCalls();
        }

        void hit(int number) {
            faults++;
            due = null;
            for (Call call : calls) {
                if (call.handler >= 0) {
                    while (calls.peek() != call) {
                        calls.pop();
                    }
                    call.place = call.handler;
                    call.handler = -1;
                    r[3] = number;
                    state = 0;
                    return;
                }
            }
            finish(number);
        }

        void hold(int newState, int where, long ticks, boolean zeroIsEndless) {
            state = newState;
            at = where;
            due = ticks == 0 && zeroIsEndless || Long.MAX_VALUE - ticks < clock ? null : Long.valueOf(clock + ticks);
            began = ++beginnings;
        }

        void checkMark() throws Fault {
            if (mark) {
                mark = false;
                throw new Fault(2);
            }
        }
    }

    private static final class M {
        T owner;
        int count;
        final ArrayList<T> entering = new ArrayList<>();
        final ArrayList<T> waiting = new ArrayList<>();
    }

    private static final class L {
        T writer;
        int writes;
        final ArrayList<T> line = new ArrayList<>();
    }

    private static final class S {
        long has;
        final ArrayList<T> line = new ArrayList<>();
    }

    private static final class B {
        int parties = 1;
        boolean broken;
        int times;
        final ArrayList<T> line = new ArrayList<>();
    }

    private final int quantum;
    private final List<List<Step>> programs = new ArrayList<>();
    private final List<T> threads = new ArrayList<>();
    private final List<M> ms = new ArrayList<>();
    private final List<L> ls = new ArrayList<>();
    private final List<S> ss = new ArrayList<>();
    private final List<B> bs = new ArrayList<>();
    private final long[] cells = new long[32];
    private final ArrayDeque<int[]> plan = new ArrayDeque<>();
    private final List<long[]> notes = new ArrayList<>();
    private long clock;
    private int beginnings;
    private int faults;
    private int noted;
    private T current;
    private int left;
    private int last = -1;

    PlainHall(int quantum) {
        this.quantum = quantum < 1 ? 1 : quantum > 1000 ? 1000 : quantum;
        for (int i = 0; i < 16; i++) {
            programs.add(new ArrayList<>());
        }
        for (int i = 0; i < 8; i++) {
            ms.add(new M());
            ls.add(new L());
            ss.add(new S());
            bs.add(new B());
        }
    }

    private static void need(boolean ok) {
        if (!ok) {
            throw new IllegalArgumentException();
        }
    }

    private static void may(boolean ok) {
        if (!ok) {
            throw new IllegalStateException();
        }
    }

    private T at(int t) {
        need(t >= 0 && t < threads.size());
        return threads.get(t);
    }

    int put(int p, int op, long a, long b) {
        need(p >= 0 && p <= 15);
        may(programs.get(p).size() < 200);
        programs.get(p).add(new Step(op, a, b));
        return programs.get(p).size() - 1;
    }

    int drop(int p) {
        need(p >= 0 && p <= 15);
        may(threads.stream().flatMap(t -> t.calls.stream()).noneMatch(c -> c.program == p));
        int had = programs.get(p).size();
        programs.get(p).clear();
        return had;
    }

    private T born(int p, long[] r) {
        T t = new T();
        t.calls.push(new Call(p));
        t.r = r;
        threads.add(t);
        t.leaveDoneCalls();
        return t;
    }

    int begin(int p, long r) {
        need(p >= 0 && p <= 15);
        may(threads.size() < 64);
        return born(p, new long[] {r, 0, 0, 0}).id;
    }

    int schedule(int t, int n) {
        at(t);
        need(n >= 1 && n <= 1000);
        may(plan.size() < 256);
        plan.add(new int[] {t, n});
        return plan.size();
    }

    private void skip() {
        while (!plan.isEmpty() && threads.get(plan.peek()[0]).state != 0) {
            plan.poll();
        }
    }

    int go(int n) {
        need(n >= 1 && n <= 20000);
        for (int done = 0;; done++) {
            if (threads.stream().allMatch(T::ended)) {
                skip();
                return 1;
            }
            if (done == n) {
                return 2;
            }
            if (threads.stream().noneMatch(t -> t.state == 0)) {
                skip();
                return 3;
            }
            if (current == null) {
                pick();
            }
            step(current);
        }
    }

    private void pick() {
        skip();
        if (!plan.isEmpty()) {
            int[] next = plan.poll();
            current = threads.get(next[0]);
            left = next[1];
            return;
        }
        int size = threads.size();
        for (int i = 1; i <= size; i++) {
            T t = threads.get((last + i + size) % size);
            if (t.state == 0) {
                current = t;
                left = quantum;
                return;
            }
        }
    }

    private void step(T t) {
        Call call = t.calls.peek();
        Step step = programs.get(call.program).get(call.place);
        last = t.id;
        left--;
        t.steps++;
        call.place++;
        boolean yields = step.op == 13;
        try {
            execute(t, call, step);
            if (t.state == 0) {
                t.leaveDoneCalls();
            }
        } catch (Fault f) {
            t.hit(f.number);
        }
        if (t.state != 0 || yields || left == 0) {
            current = null;
        }
    }

    private static int reg(long x) throws Fault {
        return part(x, 4);
    }

    private static int part(long x, int bound) throws Fault {
        if (x < 0 || x >= bound) {
            throw new Fault(3);
        }
        return (int) x;
    }

    private static void atLeast0(long x) throws Fault {
        if (x < 0) {
            throw new Fault(3);
        }
    }

    private T named(long x) throws Fault {
        if (x < 0 || x >= threads.size()) {
            throw new Fault(6);
        }
        return threads.get((int) x);
    }

    private void execute(T t, Call call, Step s) throws Fault {
        int length = programs.get(call.program).size();
        long[] r = t.r;
        if (s.op == 0 || s.op == 13) {
            return;
        } else if (s.op == 1) {
            r[reg(s.a)] = s.b;
        } else if (s.op == 2) {
            r[reg(s.a)] += r[reg(s.b)];
        } else if (s.op == 3) {
            r[reg(s.a)] = cells[part(s.b, 32)];
        } else if (s.op == 4) {
            cells[part(s.b, 32)] = r[reg(s.a)];
        } else if (s.op == 5 || s.op == 6) {
            if (s.op == 6 && r[reg(s.b)] <= 0) {
                return;
            }
            if (s.a < 0 || s.a > length) {
                throw new Fault(9);
            }
            call.place = (int) s.a;
        } else if (s.op == 7) {
            r[reg(s.a)] -= 1;
        } else if (s.op == 8) {
            int p = part(s.a, 16);
            if (t.calls.size() == 20) {
                throw new Fault(5);
            }
            t.calls.push(new Call(p));
        } else if (s.op == 9) {
            t.calls.pop();
        } else if (s.op == 10) {
            if (s.a < -1 || s.a >= length) {
                throw new Fault(9);
            }
            call.handler = (int) s.a;
        } else if (s.op == 11) {
            throw new Fault(s.a >= 1 && s.a <= 1000000 ? (int) s.a : 3);
        } else if (s.op == 12) {
            long number = r[reg(s.a)];
            noted++;
            if (notes.size() < 4096) {
                notes.add(new long[] {t.id, number});
            }
        } else if (s.op >= 14 && s.op <= 19) {
            atMonitor(t, s);
        } else if (s.op >= 20 && s.op <= 24 || s.op >= 34 && s.op <= 35) {
            atThread(t, s);
        } else if (s.op >= 25 && s.op <= 28) {
            atLock(t, s.op, part(s.a, 8));
        } else if (s.op >= 29 && s.op <= 31) {
            atSemaphore(t, s);
        } else if (s.op == 32 || s.op == 33) {
            atBarrier(t, s);
        } else {
            throw new Fault(3);
        }
    }

    private void atMonitor(T t, Step s) throws Fault {
        int register = s.op == 16 || s.op == 17 ? reg(s.b) : 0;
        int number = part(s.a, 8);
        M m = ms.get(number);
        if (s.op == 14 || s.op == 16) {
            boolean mine = m.owner == null || m.owner == t;
            if (mine) {
                m.owner = t;
                m.count++;
            }
            if (s.op == 16) {
                t.r[register] = mine ? 1 : 0;
            } else if (!mine) {
                t.want = 1;
                t.hold(1, number, 0, true);
                m.entering.add(t);
            }
            return;
        }
        if (s.op == 17) {
            atLeast0(t.r[register]);
        }
        if (m.owner != t) {
            throw new Fault(1);
        }
        if (s.op == 15) {
            if (--m.count == 0) {
                free(m);
            }
        } else if (s.op == 17) {
            t.checkMark();
            t.want = m.count;
            t.hold(2, number, t.r[register], true);
            m.waiting.add(t);
            m.count = 0;
            free(m);
        } else {
            int many = s.op == 18 ? Math.min(1, m.waiting.size()) : m.waiting.size();
            for (int i = 0; i < many; i++) {
                askAgain(m, m.waiting.get(0), false);
            }
        }
    }

    private void free(M m) {
        m.owner = null;
        if (!m.entering.isEmpty()) {
            has(m, m.entering.remove(0));
        }
    }

    private void has(M m, T t) {
        m.owner = t;
        m.count = (int) t.want;
        boolean fault = t.interrupted;
        t.interrupted = false;
        if (fault) {
            t.hit(2);
        } else {
            t.on();
        }
    }

    private void askAgain(M m, T t, boolean interrupted) {
        m.waiting.remove(t);
        t.interrupted = interrupted;
        if (m.owner == null) {
            has(m, t);
        } else {
            t.hold(1, t.at, 0, true);
            m.entering.add(t);
        }
    }

    private void atThread(T t, Step s) throws Fault {
        int a = reg(s.a);
        long v = t.r[a];
        if (s.op == 20) {
            atLeast0(v);
            t.checkMark();
            t.hold(3, 0, v, false);
        } else if (s.op == 21) {
            int p = part(s.b, 16);
            if (threads.size() == 64) {
                throw new Fault(8);
            }
            t.r[a] = threads.size();
            born(p, t.r.clone());
        } else if (s.op == 22) {
            int b = reg(s.b);
            T other = named(v);
            atLeast0(t.r[b]);
            t.checkMark();
            if (!other.ended()) {
                t.hold(4, other.id, t.r[b], true);
            }
        } else if (s.op == 23) {
            stir(named(v));
        } else if (s.op == 24) {
            t.r[a] = t.mark ? 1 : 0;
            t.mark = false;
        } else if (s.op == 34) {
            atLeast0(v);
            if (t.permit) {
                t.permit = false;
            } else if (!t.mark) {
                t.hold(8, 0, v, true);
            }
        } else {
            T other = named(v);
            if (other.state == 8) {
                other.on();
            } else if (!other.ended()) {
                other.permit = true;
            }
        }
    }

    private int readsOf(int l) {
        return threads.stream().mapToInt(t -> t.reading[l]).sum();
    }

    private void atLock(T t, int op, int number) throws Fault {
        L l = ls.get(number);
        boolean otherWrites = l.writer != null && l.writer != t;
        if (op == 25) {
            boolean has = t.reading[number] > 0 || l.writer == t;
            if (otherWrites || !has && !l.line.isEmpty()) {
                t.write = false;
                t.hold(5, number, 0, true);
                l.line.add(t);
            } else {
                t.reading[number]++;
            }
        } else if (op == 26) {
            if (otherWrites || readsOf(number) > 0) {
                t.write = true;
                t.hold(5, number, 0, true);
                l.line.add(t);
            } else {
                l.writer = t;
                l.writes++;
            }
        } else if (op == 27) {
            if (t.reading[number] == 0) {
                throw new Fault(1);
            }
            t.reading[number]--;
            passLock(l, number);
        } else {
            if (l.writer != t) {
                throw new Fault(1);
            }
            if (--l.writes == 0) {
                l.writer = null;
            }
            passLock(l, number);
        }
    }

    private void passLock(L l, int number) {
        if (l.writer == null && !l.line.isEmpty() && l.line.get(0).write && readsOf(number) == 0) {
            T w = l.line.remove(0);
            l.writer = w;
            l.writes = 1;
            w.on();
            return;
        }
        while (l.writer == null && !l.line.isEmpty() && !l.line.get(0).write) {
            T reader = l.line.remove(0);
            reader.reading[number]++;
            reader.on();
        }
    }

    private void atSemaphore(T t, Step s) throws Fault {
        int b = reg(s.b);
        int number = part(s.a, 8);
        S sem = ss.get(number);
        long n = t.r[b];
        atLeast0(n);
        if (s.op == 30) {
            more(sem, n);
            return;
        }
        t.checkMark();
        if (s.op == 31) {
            t.r[b] = n <= sem.has ? 1 : 0;
            sem.has -= n <= sem.has ? n : 0;
        } else if (sem.line.isEmpty() && n <= sem.has) {
            sem.has -= n;
        } else {
            t.want = n;
            t.hold(6, number, 0, true);
            sem.line.add(t);
        }
    }

    private void more(S sem, long n) {
        sem.has = sem.has + n < 0 ? Long.MAX_VALUE : sem.has + n;
        while (!sem.line.isEmpty() && sem.line.get(0).want <= sem.has) {
            T t = sem.line.remove(0);
            sem.has -= t.want;
            t.on();
        }
    }

    private void atBarrier(T t, Step s) throws Fault {
        int b = s.op == 32 ? reg(s.b) : 0;
        int number = part(s.a, 8);
        B bar = bs.get(number);
        if (s.op == 33) {
            shatter(bar);
            bar.broken = false;
            return;
        }
        atLeast0(t.r[b]);
        if (bar.broken) {
            throw new Fault(4);
        }
        if (t.mark) {
            t.mark = false;
            shatter(bar);
            throw new Fault(2);
        }
        t.hold(7, number, t.r[b], true);
        bar.line.add(t);
        if (bar.line.size() == bar.parties) {
            bar.times++;
            List<T> all = new ArrayList<>(bar.line);
            bar.line.clear();
            for (int i = 0; i < all.size(); i++) {
                all.get(i).r[0] = all.size() - 1 - i;
                if (all.get(i) == t) {
                    t.state = 0;
                    t.due = null;
                } else {
                    all.get(i).on();
                }
            }
        }
    }

    private void shatter(B bar) {
        bar.broken = true;
        List<T> all = new ArrayList<>(bar.line);
        bar.line.clear();
        all.forEach(t -> t.hit(4));
    }

    private void leaveBarrier(T t, int fault) {
        B bar = bs.get(t.at);
        bar.line.remove(t);
        t.hit(fault);
        shatter(bar);
    }

    private void stir(T t) {
        if (t.state == 0 || t.state == 1 || t.state == 5) {
            t.mark = true;
        } else if (t.state == 2) {
            askAgain(ms.get(t.at), t, true);
        } else if (t.state == 3 || t.state == 4) {
            t.hit(2);
        } else if (t.state == 6) {
            S sem = ss.get(t.at);
            sem.line.remove(t);
            t.hit(2);
            more(sem, 0);
        } else if (t.state == 7) {
            leaveBarrier(t, 2);
        } else if (t.state == 8) {
            t.mark = true;
            t.on();
        }
    }

    int tick(int n) {
        need(n >= 1 && n <= 1000000);
        clock += n;
        List<T> over = new ArrayList<>();
        for (T t : threads) {
            if (t.due != null && t.due <= clock) {
                over.add(t);
            }
        }
        over.sort((x, y) -> x.due.equals(y.due) ? x.began - y.began : x.due.compareTo(y.due));
        int many = 0;
        for (T t : over) {
            if (t.due == null) {
                continue;
            }
            many++;
            if (t.state == 2) {
                askAgain(ms.get(t.at), t, false);
            } else if (t.state == 7) {
                leaveBarrier(t, 7);
            } else {
                t.on();
            }
        }
        return many;
    }

    int interrupt(int t) {
        stir(at(t));
        return at(t).state;
    }

    long supply(int s, int n) {
        need(s >= 0 && s <= 7 && n >= 0 && n <= 1000000);
        more(ss.get(s), n);
        return ss.get(s).has;
    }

    int parties(int y, int n) {
        need(y >= 0 && y <= 7 && n >= 1 && n <= 64);
        may(bs.get(y).line.isEmpty());
        bs.get(y).parties = n;
        return 0;
    }

    long set(int i, long v) {
        long was = cell(i);
        cells[i] = v;
        return was;
    }

    long cell(int i) {
        need(i >= 0 && i <= 31);
        return cells[i];
    }

    int state(int t) {
        return at(t).state;
    }

    int thread(int t, int what) {
        T x = at(t);
        need(what >= 0 && what <= 7);
        Call call = x.calls.peek();
        int[] all = {x.calls.size(), call == null ? -1 : call.program, call == null ? -1 : call.place,
            call == null ? -1 : call.handler, x.mark ? 1 : 0, x.permit ? 1 : 0, x.fault, x.steps};
        return all[what];
    }

    long register(int t, int r) {
        T x = at(t);
        need(r >= 0 && r <= 3);
        return x.r[r];
    }

    private static int first(List<T> line) {
        return line.isEmpty() ? -1 : line.get(0).id;
    }

    int monitor(int m, int what) {
        need(m >= 0 && m <= 7 && what >= 0 && what <= 5);
        M x = ms.get(m);
        int[] all = {x.owner == null ? -1 : x.owner.id, x.count, x.entering.size(), x.waiting.size(), first(x.entering),
            first(x.waiting)};
        return all[what];
    }

    int lock(int l, int what) {
        need(l >= 0 && l <= 7 && what >= 0 && what <= 4);
        L x = ls.get(l);
        int[] all = {x.writer == null ? -1 : x.writer.id, x.writes, readsOf(l), x.line.size(), first(x.line)};
        return all[what];
    }

    int semaphore(int s, int what) {
        need(s >= 0 && s <= 7 && what >= 0 && what <= 1);
        S x = ss.get(s);
        return what == 1 ? x.line.size() : x.has > 2147483647 ? 2147483647 : (int) x.has;
    }

    int barrier(int y, int what) {
        need(y >= 0 && y <= 7 && what >= 0 && what <= 3);
        B x = bs.get(y);
        int[] all = {x.parties, x.line.size(), x.broken ? 1 : 0, x.times};
        return all[what];
    }

    long note(int i, boolean number) {
        return i < 0 || i >= notes.size() ? -1 : notes.get(i)[number ? 1 : 0];
    }

    int ring(int t) {
        at(t);
        List<Integer> seen = new ArrayList<>(Arrays.asList(t));
        while (true) {
            T x = threads.get(seen.get(seen.size() - 1));
            int next = x.state == 1 ? ms.get(x.at).owner.id : x.state == 4 ? x.at : -1;
            if (next == t) {
                return seen.size();
            }
            if (next < 0 || seen.contains(next)) {
                return 0;
            }
            seen.add(next);
        }
    }

    int count(int what) {
        need(what >= 0 && what <= 7);
        long[] all = {threads.size(), threads.stream().filter(t -> t.state == 0).count(),
            threads.stream().filter(T::ended).count(), threads.stream().mapToInt(t -> t.steps).sum(), noted,
            plan.size(), faults, clock % 2147483648L};
        return (int) all[what];
    }
}
