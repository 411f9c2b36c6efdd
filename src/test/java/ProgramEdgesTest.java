/** Term 1 at its edges: PROGRAMS, THREADS, REGISTERS, CELLS and FAULTS; each check names the document's words. */
public final class ProgramEdgesTest {
    private static final Check CHECK = new Check("ProgramEdgesTest");
    private static final long LEAST = Long.MIN_VALUE;
    private static final long MOST = Long.MAX_VALUE;

    public static void main(String[] args) {
        programs();
        threads();
        threadsByStep();
        newThreads();
        registers();
        cells();
        faultNumbers();
        stepsDoNothingElse();
        firstWithHandler();
        handlerIsNoneThen();
        endedByFault();
        keepsWhatItHolds();
        CHECK.finish();
    }

    private static void programs() {
        CHECK.sentence("PROGRAMS 0 to 15 have STEPS, numbered from 0 on");
        TurnHall x = new TurnHall(1);
        for (int p = 0; p < 16; p++) {
            CHECK.same("the first PLACE of " + p, x.put(p, 0, 0, 0), 0);
            CHECK.same("the second PLACE of " + p, x.put(p, 0, 0, 0), 1);
        }
        for (int no : new int[] {-1, 16, Integer.MIN_VALUE, Integer.MAX_VALUE}) {
            CHECK.bad("put in " + no, () -> x.put(no, 0, 0, 0));
            CHECK.bad("drop of " + no, () -> x.drop(no));
            CHECK.bad("begin of " + no, () -> x.begin(no, 0));
        }
        for (int p = 0; p < 16; p++) {
            CHECK.same("each has its own STEPS: " + p, x.drop(p), 2);
        }
    }

    private static void threads() {
        CHECK.sentence("A THREAD (numbered from 0 on, 64 at most ever)");
        TurnHall x = new TurnHall(1);
        for (int t = 0; t < 64; t++) {
            CHECK.same("number", x.begin(t & 15, 0), t);
        }
        CHECK.same("all have ENDED", x.count(2), 64);
        CHECK.refused("a 65th, though all have ENDED", () -> x.begin(0, 0));
        CHECK.same("there are 64", x.count(0), 64);
        CHECK.same("the last one is there", x.state(63), 9);
        CHECK.bad("there is no THREAD 64", () -> x.state(64));
    }

    private static void threadsByStep() {
        TurnHall x = Halls.with(10, 10, 3, 0, 21, 1, 1, 21, 1, 1, 12, 3, 0);
        for (int t = 0; t < 62; t++) {
            x.begin(1, 0);
        }
        CHECK.same("the 63rd", x.begin(0, 0), 62);
        x.go(2);
        CHECK.same("the 64th is started by a STEP", x.register(62, 1), 63);
        CHECK.same("THREADS ever", x.count(0), 64);
        x.go(1);
        CHECK.same("FAULT 8 for one more", x.register(62, 3), 8);
        CHECK.same("its number stays in R[a]", x.register(62, 1), 63);
        CHECK.same("THREADS ever", x.count(0), 64);
        CHECK.refused("nor does begin find room", () -> x.begin(1, 0));
        CHECK.same("go", x.go(9), 1);
    }

    private static void newThreads() {
        CHECK.sentence("a HANDLER (a PLACE, or none); four REGISTERS (64 bits, 0 at first); a MARK (it was "
            + "interrupted), a PERMIT (to park)");
        TurnHall x = Halls.with(100, 35, 0, 0, 23, 0, 0, 10, 0, 0, 21, 1, 1, 0, 0, 0);
        Halls.program(x, 1, 0, 0, 0);
        x.begin(0, 0);
        CHECK.same("one that began", Halls.thread(x, 0), "1 0 0 -1 0 0 0 0");
        x.go(4);
        CHECK.same("has HANDLER, MARK and PERMIT", Halls.thread(x, 0), "1 0 4 0 1 1 0 4");
        CHECK.same("one that it started has none of them", Halls.thread(x, 1), "1 1 0 -1 0 0 0 0");
    }

    private static void registers() {
        CHECK.sentence("four REGISTERS (64 bits, 0 at first)");
        TurnHall x = Halls.with(100, 1, 1, MOST, 1, 2, 1, 2, 1, 2, 1, 2, LEAST, 2, 2, 2, 1, 3, LEAST, 7, 3, 0);
        x.begin(0, LEAST);
        CHECK.same("R[0] as begun", x.register(0, 0), LEAST);
        for (int r = 1; r < 4; r++) {
            CHECK.same("0 at first: " + r, x.register(0, r), 0);
        }
        x.go(100);
        CHECK.same("the most and 1", x.register(0, 1), LEAST);
        CHECK.same("the least twice", x.register(0, 2), 0);
        CHECK.same("one less than the least", x.register(0, 3), MOST);
        CHECK.same("R[0] stays", x.register(0, 0), LEAST);
        CHECK.bad("R[4]", () -> x.register(0, 4));
        CHECK.bad("R[-1]", () -> x.register(0, -1));
    }

    private static void cells() {
        CHECK.sentence("CELLS 0 to 31 (64 bits, 0 at first) are everybody's");
        TurnHall x = Halls.with(100, 1, 0, LEAST, 4, 0, 0, 1, 0, MOST, 4, 0, 31);
        Halls.program(x, 1, 3, 0, 0, 3, 1, 31, 3, 2, 15, 3, 3, 16);
        for (int i = 0; i < 32; i++) {
            CHECK.same("0 at first: " + i, x.cell(i), 0);
        }
        x.set(15, -7);
        Halls.run(x, 0, 1);
        CHECK.same("CELL 0", x.cell(0), LEAST);
        CHECK.same("CELL 31", x.cell(31), MOST);
        CHECK.same("another THREAD sees CELL 0", x.register(1, 0), LEAST);
        CHECK.same("another THREAD sees CELL 31", x.register(1, 1), MOST);
        CHECK.same("and what was set", x.register(1, 2), -7);
        CHECK.same("one that nobody wrote", x.register(1, 3), 0);
        CHECK.bad("CELL -1", () -> x.cell(-1));
        CHECK.bad("CELL 32", () -> x.cell(32));
    }

    private static void faultNumbers() {
        CHECK.sentence("1 not its own, 2 interrupted, 3 a bad number, 4 a broken barrier, 5 too many CALLS, 6 no "
            + "such THREAD, 7 time is over, 8 too many THREADS, 9 no such PLACE");
        CHECK.same("1", Halls.faultOf(0, 15, 0, 0), 1);
        CHECK.same("2", Halls.faultOf(0, 23, 0, 0, 20, 0, 0), 2);
        CHECK.same("3", Halls.faultOf(-1, 20, 0, 0), 3);
        CHECK.same("4", Halls.faultOf(0, 10, 3, 0, 23, 0, 0, 32, 0, 1, 32, 0, 1), 4);
        CHECK.same("5", Halls.faultOf(0, 8, 0, 0), 5);
        CHECK.same("6", Halls.faultOf(1, 35, 0, 0), 6);
        TurnHall x = Halls.with(1, 32, 0, 0);
        x.parties(0, 2);
        x.begin(0, 1);
        x.go(9);
        x.tick(1);
        CHECK.same("7", x.thread(0, 6), 7);
        CHECK.same("8", Halls.faultOf(0, 21, 0, 1, 5, 0, 0), 8);
        CHECK.same("9", Halls.faultOf(0, 5, 2, 0), 9);
    }

    private static void stepsDoNothingElse() {
        CHECK.sentence("It ends the STEP, which does nothing else (but as told)");
        long[][] steps = {
            {3, 0, 1, 4, 9}, {3, 0, 2, 0, 4}, {3, 0, 2, 4, 0}, {3, 0, 3, 0, 32}, {3, 0, 3, 4, 0}, {3, 0, 4, 0, 32},
            {3, 0, 4, 4, 0}, {9, 1, 5, 99, 0}, {9, 1, 6, 99, 0}, {3, 1, 6, 0, 4}, {3, 0, 7, 4, 0}, {3, 0, 8, 16, 0},
            {9, 0, 10, 6, 0}, {9, 0, 10, -2, 0}, {3, 0, 11, 0, 0}, {3, 0, 12, 4, 0}, {3, 0, 14, 8, 0},
            {1, 0, 15, 0, 0}, {3, 0, 16, 8, 1}, {3, 0, 16, 0, 4}, {1, 0, 17, 0, 0}, {1, 0, 18, 0, 0},
            {1, 0, 19, 0, 0}, {3, -1, 20, 0, 0}, {3, 0, 21, 1, 16}, {3, 0, 21, 4, 0}, {6, 2, 22, 0, 1},
            {6, 2, 23, 0, 0}, {3, 0, 24, 4, 0}, {3, 0, 25, 8, 0}, {3, 0, 26, 8, 0}, {1, 0, 27, 0, 0},
            {1, 0, 28, 0, 0}, {3, -1, 29, 0, 0}, {3, 0, 29, 0, 4}, {3, -1, 30, 0, 0}, {3, 1, 30, 8, 0},
            {3, -1, 31, 0, 0}, {3, 0, 31, 8, 0}, {3, -1, 32, 0, 0}, {3, 0, 32, 0, 4}, {3, 0, 33, 8, 0},
            {3, -1, 34, 0, 0}, {6, 2, 35, 0, 0}, {3, 0, 36, 0, 0},
        };
        for (long[] s : steps) {
            doesNothingElse((int) s[0], s[1], (int) s[2], s[3], s[4]);
        }
    }

    /** A STEP that has the FAULT, done by a THREAD with its MARK and its PERMIT and R[0] as told. */
    private static void doesNothingElse(int fault, long r, int op, long a, long b) {
        String step = "STEP " + op + " " + a + " " + b;
        TurnHall x = Halls.with(1000, 10, 5, 0, 1, 1, 11, 1, 2, 22, 13, 0, 0, op, a, b, 0, 0, 0);
        Halls.program(x, 1, 1, 1, 0, 35, 1, 0);
        x.supply(0, 5);
        x.set(0, 77);
        x.begin(0, r);
        x.begin(1, 0);
        x.go(6);
        x.interrupt(0);
        String before = besides(x);
        x.go(1);
        CHECK.same(step + " has the FAULT", x.register(0, 3), fault);
        CHECK.same(step + " goes on at the HANDLER", x.thread(0, 2), 5);
        CHECK.same(step + " does nothing else", besides(x), before);
    }

    /** What a FAULT of THREAD 0 leaves alone. */
    private static String besides(TurnHall x) {
        return x.register(0, 0) + " " + x.register(0, 1) + " " + x.register(0, 2) + " " + x.thread(0, 0)
            + x.thread(0, 1) + x.thread(0, 4) + x.thread(0, 5) + " " + Halls.states(x) + " " + x.count(0) + " "
            + x.count(4) + " " + Halls.things(x);
    }

    private static void firstWithHandler() {
        CHECK.sentence("of the CALLS from the innermost on the first with a HANDLER goes on there (those within it "
            + "are left");
        TurnHall x = Halls.with(100, 10, 2, 0, 8, 1, 0, 12, 3, 0);
        Halls.program(x, 1, 8, 1, 0);
        x.begin(0, 0);
        x.go(20);
        CHECK.same("20 CALLS", x.thread(0, 0), 20);
        x.go(1);
        CHECK.same("the outermost alone has one", Halls.thread(x, 0), "1 0 2 -1 0 0 0 21");
        CHECK.same("the FAULT", x.register(0, 3), 5);
        CHECK.same("the others are over", x.drop(1), 1);
        TurnHall y = Halls.with(100, 10, 2, 0, 8, 1, 0, 0, 0, 0);
        Halls.program(y, 1, 10, 2, 0, 8, 2, 0, 34, 0, 0);
        Halls.program(y, 2, 11, 1000000, 0);
        y.begin(0, 0);
        y.go(5);
        CHECK.same("the one in the middle comes before the outer one", Halls.thread(y, 0), "2 1 2 -1 0 0 0 5");
        CHECK.same("the outer one keeps its own", y.register(0, 3), 1000000);
        y.go(1);
        y.interrupt(0);
        CHECK.same("which it has again behind the inner CALL", Halls.thread(y, 0), "1 0 2 2 1 0 0 6");
        TurnHall z = Halls.with(100, 8, 1, 0, 11, 50, 0);
        Halls.program(z, 1, 10, 0, 0, 9, 0, 0);
        Halls.run(z, 0);
        CHECK.same("the HANDLER of a CALL that is over catches nothing", z.thread(0, 6), 50);
    }

    private static void handlerIsNoneThen() {
        CHECK.sentence("the HANDLER is none then; REGISTER 3 becomes the FAULT's number");
        TurnHall x = Halls.with(100, 1, 3, 99, 10, 2, 0, 11, 60, 0);
        x.begin(0, 0);
        x.go(3);
        CHECK.same("caught at the STEP that had it", Halls.thread(x, 0), "1 0 2 -1 0 0 0 3");
        CHECK.same("REGISTER 3", x.register(0, 3), 60);
        CHECK.same("the second time it is not caught", x.go(9), 1);
        CHECK.same("ENDED by it", Halls.thread(x, 0), "0 -1 -1 -1 0 0 60 4");
        CHECK.same("FAULTS ever", x.count(6), 2);
    }

    private static void endedByFault() {
        CHECK.sentence("without one the THREAD has ENDED, by that FAULT");
        TurnHall x = Halls.with(100, 1, 3, 99, 8, 1, 0);
        Halls.program(x, 1, 11, 1000000, 0);
        Halls.run(x, 0);
        CHECK.same("ENDED by a FAULT", x.state(0), 10);
        CHECK.same("no CALLS", Halls.thread(x, 0), "0 -1 -1 -1 0 0 1000000 3");
        CHECK.same("REGISTER 3 stays", x.register(0, 3), 99);
    }

    private static void keepsWhatItHolds() {
        CHECK.sentence("What it holds it keeps");
        TurnHall x = Halls.with(100, 14, 0, 0, 14, 0, 0, 25, 0, 0, 26, 1, 0, 1, 1, 3, 29, 0, 1, 11, 50, 0);
        Halls.program(x, 1, 14, 0, 0);
        Halls.program(x, 2, 26, 0, 0);
        Halls.program(x, 3, 25, 1, 0);
        Halls.program(x, 4, 1, 1, 3, 29, 0, 1);
        x.supply(0, 5);
        Halls.run(x, 0, 1, 2, 3, 4);
        CHECK.same("one has ENDED, the others wait", Halls.states(x), "10 1 5 5 6");
        CHECK.same("MONITOR", Halls.monitor(x, 0), "0 2 1 0 1 -1");
        CHECK.same("LOCK that it reads", Halls.lock(x, 0), "-1 0 1 1 2");
        CHECK.same("LOCK that it writes", Halls.lock(x, 1), "0 1 0 1 3");
        CHECK.same("SEMAPHORE", Halls.semaphore(x, 0), "2 1");
        TurnHall y = Halls.with(100, 10, 3, 0, 14, 0, 0, 11, 50, 0, 34, 0, 0);
        Halls.run(y, 0);
        CHECK.same("also where the FAULT is caught", Halls.monitor(y, 0), "0 1 0 0 -1 -1");
    }
}
