/**
 * A hall of threads that take turns on programs of small steps. The document's words are kept for what it names:
 * PROGRAM, STEP, PLACE, CALL, HANDLER, MARK, PERMIT, FAULT; its THREADS are the Workers here.
 */
public final class TurnHall {
    private static final int NONE = -1;
    private static final int MOST_INT = 2147483647;
    private static final long MOST = 9223372036854775807L;
    private static final long NEVER = MOST;

    private static final int PROGRAMS = 16;
    private static final int MAX_STEPS = 200;
    private static final int MAX_THREADS = 64;
    private static final int MAX_CALLS = 20;
    private static final int REGISTERS = 4;
    private static final int CELLS = 32;
    private static final int EACH = 8;
    private static final int MAX_NOTES = 4096;
    private static final int MAX_SCHEDULE = 256;
    private static final int MAX_QUANTUM = 1000;
    private static final int MAX_GO = 20000;
    private static final int MILLION = 1000000;

    private static final int READY = 0;
    private static final int ENTERING = 1;
    private static final int WAITING = 2;
    private static final int SLEEPING = 3;
    private static final int JOINING = 4;
    private static final int LOCKING = 5;
    private static final int TAKING = 6;
    private static final int GATHERING = 7;
    private static final int PARKED = 8;
    private static final int ENDED = 9;
    private static final int FAULTED = 10;

    private static final int FINE = 0;
    private static final int NOT_ITS_OWN = 1;
    private static final int INTERRUPTED = 2;
    private static final int BAD_NUMBER = 3;
    private static final int BROKEN = 4;
    private static final int TOO_MANY_CALLS = 5;
    private static final int NO_THREAD = 6;
    private static final int TIME_IS_OVER = 7;
    private static final int TOO_MANY_THREADS = 8;
    private static final int NO_PLACE = 9;

    private static final int NOTHING = 0;
    private static final int LOAD = 1;
    private static final int ADD = 2;
    private static final int FETCH = 3;
    private static final int STORE = 4;
    private static final int JUMP = 5;
    private static final int JUMP_IF = 6;
    private static final int ONE_LESS = 7;
    private static final int CALL = 8;
    private static final int RETURN = 9;
    private static final int HANDLE = 10;
    private static final int RAISE = 11;
    private static final int NOTE = 12;
    private static final int YIELD = 13;
    private static final int ENTER = 14;
    private static final int EXIT = 15;
    private static final int TRY_ENTER = 16;
    private static final int AWAIT = 17;
    private static final int NOTICE = 18;
    private static final int NOTICE_ALL = 19;
    private static final int SLEEP = 20;
    private static final int START = 21;
    private static final int JOIN = 22;
    private static final int INTERRUPT = 23;
    private static final int TAKE_MARK = 24;
    private static final int READ = 25;
    private static final int WRITE = 26;
    private static final int READ_LESS = 27;
    private static final int WRITE_LESS = 28;
    private static final int TAKE = 29;
    private static final int GIVE = 30;
    private static final int TRY_TAKE = 31;
    private static final int COME = 32;
    private static final int MEND = 33;
    private static final int PARK = 34;
    private static final int UNPARK = 35;

    private static final int A_REGISTER = 1;
    private static final int B_REGISTER = 2;
    private static final int B_CELL = 4;
    private static final int A_EIGHT = 8;
    private static final int A_PROGRAM = 16;
    private static final int B_PROGRAM = 32;

    /** What the numbers a and b of operations 0 to 35 name, as a sum of the six kinds above. */
    private static final int[] NAMED = {
        0, 1, 3, 5, 5, 0, 2, 1, 16, 0, 0, 0, 1, 0,
        8, 8, 10, 10, 8, 8,
        1, 33, 3, 1, 1,
        8, 8, 8, 8,
        10, 10, 10,
        10, 8,
        1, 1
    };

    private final int quantum;
    private final Floor floor = new Floor();
    private final long[] cells = new long[CELLS];
    private final Monitor[] monitors = new Monitor[EACH];
    private final Lock[] locks = new Lock[EACH];
    private final Semaphore[] semaphores = new Semaphore[EACH];
    private final Barrier[] barriers = new Barrier[EACH];
    private final Schedule schedule = new Schedule();
    private final Notes notes = new Notes();

    /** The THREAD whose turn it is, and how many STEPS of it are left: a turn outlives the go() that began it. */
    private int turn = 0;
    private int turnLeft = 0;
    private int lastThread = NONE;

    public TurnHall(int quantum) {
        this.quantum = Math.max(1, Math.min(MAX_QUANTUM, quantum));
        for (int i = 0; i < EACH; i++) {
            monitors[i] = new Monitor(i, floor);
            locks[i] = new Lock(i, floor);
            semaphores[i] = new Semaphore(i, floor);
            barriers[i] = new Barrier(i, floor);
        }
    }

    public int put(int p, int op, long a, long b) throws IllegalArgumentException, IllegalStateException {
        demand(isWithin(p, PROGRAMS));
        Program program = floor.programs[p];
        if (program.length >= MAX_STEPS) {
            throw new IllegalStateException("the PROGRAM has 200 STEPS");
        }
        program.append(op, a, b);
        return program.length - 1;
    }

    public int drop(int p) throws IllegalArgumentException, IllegalStateException {
        demand(isWithin(p, PROGRAMS));
        if (floor.isCalled(p)) {
            throw new IllegalStateException("a THREAD has a CALL of the PROGRAM");
        }
        Program program = floor.programs[p];
        int had = program.length;
        program.length = 0;
        return had;
    }

    public int begin(int p, long r) throws IllegalArgumentException, IllegalStateException {
        demand(isWithin(p, PROGRAMS));
        if (floor.size >= MAX_THREADS) {
            throw new IllegalStateException("there were 64 THREADS");
        }
        Worker w = floor.newWorker(p);
        w.registers[0] = r;
        floor.settle();
        return w.number;
    }

    public int schedule(int t, int n) throws IllegalArgumentException, IllegalStateException {
        demand(isWithin(t, floor.size) && n >= 1 && n <= MAX_QUANTUM);
        if (schedule.size >= MAX_SCHEDULE) {
            throw new IllegalStateException("THE SCHEDULE has 256");
        }
        schedule.append(t, n);
        return schedule.size;
    }

    public int go(int n) throws IllegalArgumentException {
        demand(n >= 1 && n <= MAX_GO);
        int done = 0;
        for (; done < n && floor.ready > 0; done++) {
            Worker w = nextWorker();
            closeStep(w, perform(w));
        }
        boolean allEnded = floor.ended == floor.size;
        if (!allEnded && done == n) {
            return 2;
        }
        passOver();
        return allEnded ? 1 : 3;
    }

    public int tick(int n) throws IllegalArgumentException {
        demand(n >= 1 && n <= MILLION);
        floor.clock += n;
        int due = 0;
        // One by one, as what is over may let others go on before their own time.
        Worker w = floor.firstDue();
        for (; w != null && due < MAX_THREADS; due++) {
            endWait(w);
            floor.settle();
            w = floor.firstDue();
        }
        return due;
    }

    public int interrupt(int t) throws IllegalArgumentException {
        demand(isWithin(t, floor.size));
        stir(t);
        floor.settle();
        return floor.workers[t].state;
    }

    public long supply(int s, int n) throws IllegalArgumentException {
        demand(isWithin(s, EACH) && n >= 0 && n <= MILLION);
        semaphores[s].give(n);
        floor.settle();
        return semaphores[s].has;
    }

    public int parties(int y, int n) throws IllegalArgumentException, IllegalStateException {
        demand(isWithin(y, EACH) && n >= 1 && n <= MAX_THREADS);
        if (barriers[y].line.size > 0) {
            throw new IllegalStateException("one waits at the BARRIER");
        }
        barriers[y].parties = n;
        return 0;
    }

    public long set(int i, long v) throws IllegalArgumentException {
        demand(isWithin(i, CELLS));
        long was = cells[i];
        cells[i] = v;
        return was;
    }

    public long cell(int i) throws IllegalArgumentException {
        demand(isWithin(i, CELLS));
        return cells[i];
    }

    public int state(int t) throws IllegalArgumentException {
        demand(isWithin(t, floor.size));
        return floor.workers[t].state;
    }

    public int thread(int t, int what) throws IllegalArgumentException {
        demand(isWithin(t, floor.size) && isWithin(what, 8));
        Worker w = floor.workers[t];
        int call = w.calls - 1;
        switch (what) {
            case 0: return w.calls;
            case 1: return call < 0 ? NONE : w.programs[call];
            case 2: return call < 0 ? NONE : w.places[call];
            case 3: return call < 0 ? NONE : w.handlers[call];
            case 4: return w.marked ? 1 : 0;
            case 5: return w.permitted ? 1 : 0;
            case 6: return w.endFault;
            default: return w.steps;
        }
    }

    public long register(int t, int r) throws IllegalArgumentException {
        demand(isWithin(t, floor.size) && isWithin(r, REGISTERS));
        return floor.workers[t].registers[r];
    }

    public int monitor(int m, int what) throws IllegalArgumentException {
        demand(isWithin(m, EACH) && isWithin(what, 6));
        Monitor monitor = monitors[m];
        switch (what) {
            case 0: return monitor.owner;
            case 1: return monitor.times;
            case 2: return monitor.entering.size;
            case 3: return monitor.waiting.size;
            case 4: return monitor.entering.firstNumber();
            default: return monitor.waiting.firstNumber();
        }
    }

    public int lock(int l, int what) throws IllegalArgumentException {
        demand(isWithin(l, EACH) && isWithin(what, 5));
        Lock lock = locks[l];
        switch (what) {
            case 0: return lock.writer;
            case 1: return lock.writes;
            case 2: return lock.reads;
            case 3: return lock.line.size;
            default: return lock.line.firstNumber();
        }
    }

    public int semaphore(int s, int what) throws IllegalArgumentException {
        demand(isWithin(s, EACH) && isWithin(what, 2));
        Semaphore semaphore = semaphores[s];
        return what == 0 ? (int) Math.min(semaphore.has, MOST_INT) : semaphore.line.size;
    }

    public int barrier(int y, int what) throws IllegalArgumentException {
        demand(isWithin(y, EACH) && isWithin(what, 4));
        Barrier barrier = barriers[y];
        switch (what) {
            case 0: return barrier.parties;
            case 1: return barrier.line.size;
            case 2: return barrier.broken ? 1 : 0;
            default: return barrier.passes;
        }
    }

    public long note(int i, boolean number) {
        if (!isWithin(i, notes.kept())) {
            return NONE;
        }
        return number ? notes.numbers[i] : notes.threads[i];
    }

    public int ring(int t) throws IllegalArgumentException {
        demand(isWithin(t, floor.size));
        int at = t;
        for (int n = 1; n <= floor.size; n++) {
            at = awaitedBy(floor.workers[at]);
            if (at == NONE) {
                return 0;
            }
            if (at == t) {
                return n;
            }
        }
        return 0;
    }

    public int count(int what) throws IllegalArgumentException {
        demand(isWithin(what, 8));
        switch (what) {
            case 0: return floor.size;
            case 1: return floor.ready;
            case 2: return floor.ended;
            case 3: return floor.steps;
            case 4: return notes.ever;
            case 5: return schedule.size;
            case 6: return floor.faults;
            default: return (int) (floor.clock & MOST_INT);
        }
    }

    private static void demand(boolean told) {
        if (!told) {
            throw new IllegalArgumentException("an argument is none that is told");
        }
    }

    private static boolean isWithin(long number, int bound) {
        return number >= 0 && number < bound;
    }

    /** The THREAD that this one waits for by a MONITOR or a join. */
    private int awaitedBy(Worker w) {
        if (w.state == ENTERING) {
            return monitors[w.where].owner;
        }
        return w.state == JOINING ? w.where : NONE;
    }

    /** Drops from THE SCHEDULE's front those whose THREAD is not READY. */
    private void passOver() {
        for (int i = 0; i < MAX_SCHEDULE && schedule.size > 0; i++) {
            if (floor.workers[schedule.frontThread()].state == READY) {
                return;
            }
            schedule.removeFront();
        }
    }

    private void beginTurn() {
        passOver();
        if (schedule.size > 0) {
            turn = schedule.frontThread();
            turnLeft = schedule.frontSteps();
            schedule.removeFront();
            return;
        }
        turn = nextReady();
        turnLeft = quantum;
    }

    private int nextReady() {
        int t = lastThread;
        for (int i = 0; i < floor.size; i++) {
            t = t + 1 < floor.size ? t + 1 : 0;
            if (floor.workers[t].state == READY) {
                return t;
            }
        }
        return turn;
    }

    /** Whose STEP is next, which counts as done then; go() sees to it that a THREAD is READY. */
    private Worker nextWorker() {
        if (turnLeft == 0) {
            beginTurn();
        }
        turnLeft--;
        lastThread = turn;
        Worker w = floor.workers[turn];
        w.steps++;
        floor.steps++;
        return w;
    }

    private void closeStep(Worker w, int fault) {
        if (fault != FINE) {
            floor.raise(w, fault);
        }
        if (w.state == READY) {
            floor.returnCalls(w);
        }
        if (w.state != READY) {
            turnLeft = 0;
        }
        floor.settle();
    }

    /** Does the STEP where a READY THREAD stands, which goes on behind it; answers the FAULT. */
    private int perform(Worker w) {
        if (!floor.isAtStep(w)) {
            return FINE;
        }
        int call = w.calls - 1;
        int place = w.places[call];
        w.places[call] = place + 1;
        Program program = floor.programs[w.programs[call]];
        int op = program.operations[place];
        long a = program.as[place];
        long b = program.bs[place];
        if (!areNamesThere(op, a, b)) {
            return BAD_NUMBER;
        }
        switch (op) {
            case NOTHING:
                return FINE;
            case LOAD: case ADD: case FETCH: case STORE: case ONE_LESS: case NOTE: case TAKE_MARK:
                return registerStep(w, op, (int) a, b);
            case JUMP: case JUMP_IF: case CALL: case RETURN: case HANDLE: case RAISE: case YIELD:
                return flowStep(w, op, a, b);
            case ENTER: case EXIT: case TRY_ENTER: case NOTICE: case NOTICE_ALL:
                return monitorStep(w, op, monitors[(int) a], (int) b);
            case AWAIT:
                return await(monitors[(int) a], w, w.registers[(int) b]);
            case SLEEP: case START: case JOIN: case PARK: case UNPARK:
                return threadStep(w, op, (int) a, (int) b);
            case INTERRUPT:
                return stir(w.registers[(int) a]);
            case READ: case WRITE: case READ_LESS: case WRITE_LESS:
                return lockStep(w, op, locks[(int) a]);
            case TAKE: case GIVE: case TRY_TAKE:
                return semaphoreStep(w, op, semaphores[(int) a], (int) b);
            case COME:
                return comeTo(barriers[(int) a], w, w.registers[(int) b]);
            case MEND:
                barriers[(int) a].breakUp();
                barriers[(int) a].broken = false;
                return FINE;
            default:
                return BAD_NUMBER;
        }
    }

    /** Whether the operation, and the REGISTERS and other things that it names, are there. */
    private static boolean areNamesThere(int op, long a, long b) {
        if (!isWithin(op, NAMED.length)) {
            return false;
        }
        int named = NAMED[op];
        return ((named & A_REGISTER) == 0 || isWithin(a, REGISTERS))
            && ((named & B_REGISTER) == 0 || isWithin(b, REGISTERS))
            && ((named & B_CELL) == 0 || isWithin(b, CELLS))
            && ((named & A_EIGHT) == 0 || isWithin(a, EACH))
            && ((named & A_PROGRAM) == 0 || isWithin(a, PROGRAMS))
            && ((named & B_PROGRAM) == 0 || isWithin(b, PROGRAMS));
    }

    private int registerStep(Worker w, int op, int a, long b) {
        long[] registers = w.registers;
        switch (op) {
            case LOAD:
                registers[a] = b;
                return FINE;
            case ADD:
                registers[a] += registers[(int) b];
                return FINE;
            case FETCH:
                registers[a] = cells[(int) b];
                return FINE;
            case STORE:
                cells[(int) b] = registers[a];
                return FINE;
            case ONE_LESS:
                registers[a]--;
                return FINE;
            case NOTE:
                notes.append(w.number, registers[a]);
                return FINE;
            default:
                registers[a] = w.takeMark() ? 1 : 0;
                return FINE;
        }
    }

    private int flowStep(Worker w, int op, long a, long b) {
        int call = w.calls - 1;
        int length = floor.programs[w.programs[call]].length;
        switch (op) {
            case JUMP_IF:
                return w.registers[(int) b] > 0 ? jump(w, a, length) : FINE;
            case JUMP:
                return jump(w, a, length);
            case CALL:
                if (w.calls >= MAX_CALLS) {
                    return TOO_MANY_CALLS;
                }
                w.open((int) a);
                return FINE;
            case RETURN:
                w.calls--;
                return FINE;
            case HANDLE:
                if (a != NONE && !isWithin(a, length)) {
                    return NO_PLACE;
                }
                w.handlers[call] = (int) a;
                return FINE;
            case RAISE:
                return a < 1 || a > MILLION ? BAD_NUMBER : (int) a;
            default:
                turnLeft = 0;
                return FINE;
        }
    }

    /** The PLACE behind the last STEP is one too: there the CALL returns. */
    private static int jump(Worker w, long place, int length) {
        if (place < 0 || place > length) {
            return NO_PLACE;
        }
        w.places[w.calls - 1] = (int) place;
        return FINE;
    }

    private int monitorStep(Worker w, int op, Monitor monitor, int b) {
        if (op == ENTER) {
            if (!monitor.tryEnter(w)) {
                monitor.askFor(w, 1);
            }
            return FINE;
        }
        if (op == TRY_ENTER) {
            w.registers[b] = monitor.tryEnter(w) ? 1 : 0;
            return FINE;
        }
        if (monitor.owner != w.number) {
            return NOT_ITS_OWN;
        }
        if (op == EXIT) {
            monitor.exit();
        } else {
            monitor.notice(op == NOTICE ? 1 : MAX_THREADS);
        }
        return FINE;
    }

    private int await(Monitor monitor, Worker w, long ticks) {
        if (ticks < 0) {
            return BAD_NUMBER;
        }
        if (monitor.owner != w.number) {
            return NOT_ITS_OWN;
        }
        if (w.takeMark()) {
            return INTERRUPTED;
        }
        monitor.giveUp(w, floor.endOf(ticks));
        return FINE;
    }

    private int threadStep(Worker w, int op, int a, int b) {
        long number = w.registers[a];
        switch (op) {
            case SLEEP:
                return sleep(w, number);
            case START:
                return start(w, a, b);
            case JOIN:
                return join(w, number, w.registers[b]);
            case PARK:
                return park(w, number);
            default:
                return unpark(number);
        }
    }

    private int sleep(Worker w, long ticks) {
        if (ticks < 0) {
            return BAD_NUMBER;
        }
        if (w.takeMark()) {
            return INTERRUPTED;
        }
        floor.beginWait(w, SLEEPING, NONE, floor.timeBehind(ticks));
        return FINE;
    }

    private int start(Worker w, int a, int program) {
        if (floor.size >= MAX_THREADS) {
            return TOO_MANY_THREADS;
        }
        Worker started = floor.newWorker(program);
        w.registers[a] = started.number;
        System.arraycopy(w.registers, 0, started.registers, 0, REGISTERS);
        return FINE;
    }

    private int join(Worker w, long t, long ticks) {
        if (!isWithin(t, floor.size)) {
            return NO_THREAD;
        }
        if (ticks < 0) {
            return BAD_NUMBER;
        }
        if (w.takeMark()) {
            return INTERRUPTED;
        }
        if (!floor.workers[(int) t].hasEnded()) {
            floor.beginWait(w, JOINING, (int) t, floor.endOf(ticks));
        }
        return FINE;
    }

    private int park(Worker w, long ticks) {
        if (ticks < 0) {
            return BAD_NUMBER;
        }
        if (w.permitted) {
            w.permitted = false;
        } else if (!w.marked) {
            floor.beginWait(w, PARKED, NONE, floor.endOf(ticks));
        }
        return FINE;
    }

    private int unpark(long t) {
        if (!isWithin(t, floor.size)) {
            return NO_THREAD;
        }
        Worker w = floor.workers[(int) t];
        if (w.state == PARKED) {
            floor.goOn(w);
        } else if (!w.hasEnded()) {
            w.permitted = true;
        }
        return FINE;
    }

    private int lockStep(Worker w, int op, Lock lock) {
        switch (op) {
            case READ:
                lock.read(w);
                return FINE;
            case WRITE:
                lock.write(w);
                return FINE;
            case READ_LESS:
                return lock.tryReadLess(w) ? FINE : NOT_ITS_OWN;
            default:
                return lock.tryWriteLess(w) ? FINE : NOT_ITS_OWN;
        }
    }

    private int semaphoreStep(Worker w, int op, Semaphore semaphore, int b) {
        long number = w.registers[b];
        if (number < 0) {
            return BAD_NUMBER;
        }
        if (op == GIVE) {
            semaphore.give(number);
            return FINE;
        }
        // The document's "as 29" holds for the MARK, too: a try may be interrupted.
        if (w.takeMark()) {
            return INTERRUPTED;
        }
        if (op == TRY_TAKE) {
            w.registers[b] = semaphore.tryTake(number) ? 1 : 0;
        } else {
            semaphore.take(w, number);
        }
        return FINE;
    }

    private int comeTo(Barrier barrier, Worker w, long ticks) {
        if (ticks < 0) {
            return BAD_NUMBER;
        }
        if (barrier.broken) {
            return BROKEN;
        }
        if (w.takeMark()) {
            barrier.breakUp();
            return INTERRUPTED;
        }
        if (barrier.line.size + 1 < barrier.parties) {
            barrier.keep(w, floor.endOf(ticks));
        } else {
            barrier.letPass(w);
        }
        return FINE;
    }

    /** Interrupts THREAD t; FAULT 6 is answered if there is none such. */
    private int stir(long t) {
        if (!isWithin(t, floor.size)) {
            return NO_THREAD;
        }
        Worker w = floor.workers[(int) t];
        switch (w.state) {
            case READY: case ENTERING: case LOCKING:
                w.marked = true;
                break;
            case WAITING:
                monitors[w.where].callBack(w, INTERRUPTED);
                break;
            case SLEEPING: case JOINING:
                floor.raise(w, INTERRUPTED);
                break;
            case TAKING:
                semaphores[w.where].sendAway(w, INTERRUPTED);
                break;
            case GATHERING:
                barriers[w.where].breakBy(w, INTERRUPTED);
                break;
            case PARKED:
                w.marked = true;
                floor.goOn(w);
                break;
            default:
                break;
        }
        return FINE;
    }

    /** What the end of its own time does to one that waits. */
    private void endWait(Worker w) {
        switch (w.state) {
            case WAITING:
                monitors[w.where].callBack(w, FINE);
                break;
            case GATHERING:
                barriers[w.where].breakBy(w, TIME_IS_OVER);
                break;
            default:
                floor.goOn(w);
                break;
        }
    }

    /** The STEPS of a PROGRAM; its rows are made when the first STEP comes, as most PROGRAMS stay empty. */
    private static final class Program {
        int length = 0;
        int[] operations = new int[0];
        long[] as = new long[0];
        long[] bs = new long[0];

        void append(int op, long a, long b) {
            if (operations.length == 0) {
                operations = new int[MAX_STEPS];
                as = new long[MAX_STEPS];
                bs = new long[MAX_STEPS];
            }
            if (length >= operations.length) {
                return;
            }
            operations[length] = op;
            as[length] = a;
            bs[length] = b;
            length++;
        }
    }

    /** A THREAD of the document. */
    private static final class Worker {
        final int number;
        final long[] registers = new long[REGISTERS];
        final int[] programs = new int[MAX_CALLS];
        final int[] places = new int[MAX_CALLS];
        final int[] handlers = new int[MAX_CALLS];
        /** How often it reads each LOCK. */
        final int[] reads = new int[EACH];
        int calls = 0;
        int state = READY;
        boolean marked = false;
        boolean permitted = false;
        int endFault = FINE;
        int steps = 0;
        /** While it waits: the number of what it waits at, till when, and its rank among all that began to wait. */
        int where = NONE;
        long until = NEVER;
        int rank = 0;
        /** While it waits: the COUNT or the share that it asks for, and the FAULT that comes when it has that. */
        long asked = 0;
        boolean asksToWrite = false;
        int faultDue = FINE;
        /** The next one in the Line where it stands. */
        Worker next = null;

        Worker(int number) {
            this.number = number;
        }

        boolean hasEnded() {
            return state >= ENDED;
        }

        boolean takeMark() {
            boolean was = marked;
            marked = false;
            return was;
        }

        void open(int program) {
            if (calls >= MAX_CALLS) {
                return;
            }
            programs[calls] = program;
            places[calls] = 0;
            handlers[calls] = NONE;
            calls++;
        }
    }

    /** THREADS that wait for the same, the first one in front; a THREAD stands in one Line at most. */
    private static final class Line {
        Worker first = null;
        Worker last = null;
        int size = 0;

        int firstNumber() {
            return first == null ? NONE : first.number;
        }

        void append(Worker w) {
            w.next = null;
            if (last == null) {
                first = w;
            } else {
                last.next = w;
            }
            last = w;
            size++;
        }

        Worker takeFirst() {
            Worker w = first;
            if (w != null) {
                cut(null, w);
            }
            return w;
        }

        void remove(Worker w) {
            Worker before = null;
            for (Worker at = first; at != null; at = at.next) {
                if (at.number == w.number) {
                    cut(before, at);
                    return;
                }
                before = at;
            }
        }

        /** Takes one out, behind the one told, or from the front if that is null. */
        private void cut(Worker before, Worker at) {
            if (before == null) {
                first = at.next;
            } else {
                before.next = at.next;
            }
            if (at.next == null) {
                last = before;
            }
            at.next = null;
            size--;
        }
    }

    /** The THREADS, their PROGRAMS and THE CLOCK: what waiting, going on, FAULTS and ends have to do with. */
    private static final class Floor {
        final Program[] programs = new Program[PROGRAMS];
        final Worker[] workers = new Worker[MAX_THREADS];
        int size = 0;
        int ready = 0;
        int ended = 0;
        int steps = 0;
        int faults = 0;
        int waits = 0;
        long clock = 0;
        /** Whether one went on or ended since settle() was last done. */
        boolean moved = false;

        Floor() {
            for (int i = 0; i < PROGRAMS; i++) {
                programs[i] = new Program();
            }
        }

        /** A new THREAD, where the caller has seen that there is room for one. */
        Worker newWorker(int program) {
            Worker w = new Worker(size);
            w.open(program);
            workers[size] = w;
            size++;
            ready++;
            moved = true;
            return w;
        }

        boolean isCalled(int program) {
            for (int i = 0; i < size; i++) {
                Worker w = workers[i];
                for (int call = 0; call < w.calls; call++) {
                    if (w.programs[call] == program) {
                        return true;
                    }
                }
            }
            return false;
        }

        long timeBehind(long ticks) {
            return ticks > NEVER - clock ? NEVER : clock + ticks;
        }

        long endOf(long ticks) {
            return ticks == 0 ? NEVER : timeBehind(ticks);
        }

        void beginWait(Worker w, int state, int where, long until) {
            if (w.state == READY) {
                ready--;
            }
            w.state = state;
            w.where = where;
            w.until = until;
            w.rank = waits;
            waits++;
        }

        void goOn(Worker w) {
            if (w.state != READY) {
                ready++;
            }
            w.state = READY;
            w.until = NEVER;
            moved = true;
        }

        /** The THREAD has a FAULT, whether it does a STEP or waits; from a Line the caller has taken it. */
        void raise(Worker w, int fault) {
            faults++;
            int call = w.calls - 1;
            while (call >= 0 && w.handlers[call] == NONE) {
                call--;
            }
            if (call < 0) {
                end(w, fault);
                return;
            }
            w.calls = call + 1;
            w.places[call] = w.handlers[call];
            w.handlers[call] = NONE;
            w.registers[REGISTERS - 1] = fault;
            if (w.state != READY) {
                goOn(w);
            }
        }

        private void end(Worker w, int fault) {
            if (w.state == READY) {
                ready--;
            }
            ended++;
            w.state = fault == FINE ? ENDED : FAULTED;
            w.endFault = fault;
            w.calls = 0;
            w.until = NEVER;
            moved = true;
        }

        /** Whether its innermost CALL has a next STEP; a READY THREAD's always has one between STEPS. */
        boolean isAtStep(Worker w) {
            int call = w.calls - 1;
            return call >= 0 && w.places[call] < programs[w.programs[call]].length;
        }

        /** Leaves the CALLS whose last STEP is done. */
        void returnCalls(Worker w) {
            while (w.calls > 0 && !isAtStep(w)) {
                w.calls--;
            }
            if (w.calls == 0) {
                end(w, FINE);
            }
        }

        /**
         * Ends those that went on behind their last STEP, and lets go on those that joined one that has ENDED, till
         * nothing moves: rounds instead of recursion, as joins can make a chain of all THREADS.
         */
        void settle() {
            for (int round = 0; moved && round <= 2 * MAX_THREADS; round++) {
                moved = false;
                for (int i = 0; i < size; i++) {
                    Worker w = workers[i];
                    if (w.state == READY) {
                        returnCalls(w);
                    } else if (w.state == JOINING && workers[w.where].hasEnded()) {
                        goOn(w);
                    }
                }
            }
        }

        /** Whose time is over first, by THE CLOCK; null if nobody's is. */
        Worker firstDue() {
            Worker first = null;
            for (int i = 0; i < size; i++) {
                Worker w = workers[i];
                if (w.until <= clock && (first == null || isEarlier(w, first))) {
                    first = w;
                }
            }
            return first;
        }

        private static boolean isEarlier(Worker one, Worker other) {
            return one.until < other.until || (one.until == other.until && one.rank < other.rank);
        }
    }

    private static final class Monitor {
        final int index;
        final Floor floor;
        final Line entering = new Line();
        final Line waiting = new Line();
        int owner = NONE;
        int times = 0;

        Monitor(int index, Floor floor) {
            this.index = index;
            this.floor = floor;
        }

        /** Enters it if that needs no waiting. */
        boolean tryEnter(Worker w) {
            if (owner != NONE && owner != w.number) {
                return false;
            }
            owner = w.number;
            times++;
            return true;
        }

        void askFor(Worker w, int asked) {
            w.asked = asked;
            entering.append(w);
            floor.beginWait(w, ENTERING, index, NEVER);
        }

        void exit() {
            times--;
            if (times == 0) {
                passTo(entering.takeFirst());
            }
        }

        /** It has that owner now, with the COUNT that it asked for, or nobody. */
        private void passTo(Worker w) {
            if (w == null) {
                owner = NONE;
                times = 0;
                return;
            }
            owner = w.number;
            times = (int) w.asked;
            int fault = w.faultDue;
            w.faultDue = FINE;
            if (fault != FINE) {
                floor.raise(w, fault);
            } else {
                floor.goOn(w);
            }
        }

        void giveUp(Worker w, long until) {
            w.asked = times;
            waiting.append(w);
            floor.beginWait(w, WAITING, index, until);
            passTo(entering.takeFirst());
        }

        /** Up to so many of WAITING come to ENTERING; the owner notices them, so none has it at once. */
        void notice(int most) {
            for (int i = 0; i < most && waiting.size > 0; i++) {
                Worker w = waiting.takeFirst();
                if (w != null) {
                    askFor(w, (int) w.asked);
                }
            }
        }

        /** One of WAITING asks for the MONITOR again and has the FAULT when it has that. */
        void callBack(Worker w, int fault) {
            waiting.remove(w);
            w.faultDue = fault;
            if (owner == NONE) {
                passTo(w);
            } else {
                askFor(w, (int) w.asked);
            }
        }
    }

    private static final class Lock {
        final int index;
        final Floor floor;
        final Line line = new Line();
        int writer = NONE;
        int writes = 0;
        int reads = 0;

        Lock(int index, Floor floor) {
            this.index = index;
            this.floor = floor;
        }

        void read(Worker w) {
            boolean isHeld = w.reads[index] > 0 || writer == w.number;
            boolean isOtherWriting = writer != NONE && writer != w.number;
            if (!isOtherWriting && (isHeld || line.size == 0)) {
                addRead(w);
            } else {
                lineUp(w, false);
            }
        }

        void write(Worker w) {
            if (reads == 0 && (writer == NONE || writer == w.number)) {
                addWrite(w);
            } else {
                lineUp(w, true);
            }
        }

        private void addRead(Worker w) {
            w.reads[index]++;
            reads++;
        }

        private void addWrite(Worker w) {
            writer = w.number;
            writes++;
        }

        private void lineUp(Worker w, boolean toWrite) {
            w.asksToWrite = toWrite;
            line.append(w);
            floor.beginWait(w, LOCKING, index, NEVER);
        }

        boolean tryReadLess(Worker w) {
            if (w.reads[index] == 0) {
                return false;
            }
            w.reads[index]--;
            reads--;
            serve();
            return true;
        }

        boolean tryWriteLess(Worker w) {
            if (writer != w.number) {
                return false;
            }
            writes--;
            if (writes == 0) {
                writer = NONE;
            }
            serve();
            return true;
        }

        private void serve() {
            for (int i = 0; i < MAX_THREADS && isFreeForFirst(); i++) {
                Worker w = line.takeFirst();
                if (w == null) {
                    return;
                }
                if (w.asksToWrite) {
                    addWrite(w);
                } else {
                    addRead(w);
                }
                floor.goOn(w);
            }
        }

        private boolean isFreeForFirst() {
            Worker w = line.first;
            return w != null && writer == NONE && (reads == 0 || !w.asksToWrite);
        }
    }

    private static final class Semaphore {
        final int index;
        final Floor floor;
        final Line line = new Line();
        long has = 0;

        Semaphore(int index, Floor floor) {
            this.index = index;
            this.floor = floor;
        }

        /** Takes them if they are there, whoever waits. */
        boolean tryTake(long number) {
            if (has < number) {
                return false;
            }
            has -= number;
            return true;
        }

        void take(Worker w, long number) {
            if (line.size == 0 && tryTake(number)) {
                return;
            }
            w.asked = number;
            line.append(w);
            floor.beginWait(w, TAKING, index, NEVER);
        }

        void give(long number) {
            has = number > MOST - has ? MOST : has + number;
            serve();
        }

        /** One that waits has a FAULT instead; those behind it may have theirs then. */
        void sendAway(Worker w, int fault) {
            line.remove(w);
            floor.raise(w, fault);
            serve();
        }

        private void serve() {
            for (int i = 0; i < MAX_THREADS && line.first != null && tryTake(line.first.asked); i++) {
                floor.goOn(line.takeFirst());
            }
        }
    }

    private static final class Barrier {
        final int index;
        final Floor floor;
        final Line line = new Line();
        int parties = 1;
        int passes = 0;
        boolean broken = false;

        Barrier(int index, Floor floor) {
            this.index = index;
            this.floor = floor;
        }

        void keep(Worker w, long until) {
            line.append(w);
            floor.beginWait(w, GATHERING, index, until);
        }

        /** The last of its PARTIES has come: all go on. */
        void letPass(Worker last) {
            passes++;
            last.registers[0] = 0;
            for (int behind = line.size; behind > 0; behind--) {
                Worker w = line.takeFirst();
                if (w != null) {
                    w.registers[0] = behind;
                    floor.goOn(w);
                }
            }
        }

        void breakUp() {
            broken = true;
            for (int left = line.size; left > 0; left--) {
                Worker w = line.takeFirst();
                if (w != null) {
                    floor.raise(w, BROKEN);
                }
            }
        }

        /** It breaks by one that waits there, which has a FAULT of its own ahead of the others. */
        void breakBy(Worker w, int fault) {
            line.remove(w);
            floor.raise(w, fault);
            breakUp();
        }
    }

    /** THE SCHEDULE, in rows that are used around. */
    private static final class Schedule {
        final int[] threads = new int[MAX_SCHEDULE];
        final int[] steps = new int[MAX_SCHEDULE];
        int front = 0;
        int size = 0;

        void append(int t, int n) {
            if (size >= MAX_SCHEDULE) {
                return;
            }
            int at = (front + size) & (MAX_SCHEDULE - 1);
            threads[at] = t;
            steps[at] = n;
            size++;
        }

        int frontThread() {
            return threads[front];
        }

        int frontSteps() {
            return steps[front];
        }

        void removeFront() {
            if (size > 0) {
                front = (front + 1) & (MAX_SCHEDULE - 1);
                size--;
            }
        }
    }

    /** THE NOTES; their rows are made when the first one comes. */
    private static final class Notes {
        int[] threads = new int[0];
        long[] numbers = new long[0];
        int ever = 0;

        int kept() {
            return Math.min(ever, MAX_NOTES);
        }

        void append(int t, long number) {
            if (threads.length == 0) {
                threads = new int[MAX_NOTES];
                numbers = new long[MAX_NOTES];
            }
            if (ever < MAX_NOTES) {
                threads[ever] = t;
                numbers[ever] = number;
            }
            ever++;
        }
    }
}
