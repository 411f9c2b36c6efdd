/** Promise 8: interrupt, by the call and by STEP 23, in every state. */
public final class InterruptTest {
    private static final Check CHECK = new Check("InterruptTest");

    public static void main(String[] args) {
        ranges();
        readyAndEnded();
        waitingAtMonitor();
        faultComesOnce();
        enteringAndLocking();
        sleepingAndJoining();
        taking();
        gathering();
        parked();
        markIsMetBeforeTheWait();
        byStep();
        CHECK.finish();
    }

    private static void ranges() {
        TurnHall x = new TurnHall(1);
        CHECK.bad("interrupt(0) of none", () -> x.interrupt(0));
        x.begin(0, 0);
        CHECK.bad("interrupt(-1)", () -> x.interrupt(-1));
        CHECK.bad("interrupt(1)", () -> x.interrupt(1));
    }

    private static void readyAndEnded() {
        TurnHall x = new TurnHall(100);
        Halls.program(x, 0, 24, 1, 0, 24, 2, 0);
        x.begin(0, 0);
        CHECK.same("READY", x.interrupt(0), 0);
        CHECK.same("MARK", x.thread(0, 4), 1);
        CHECK.same("again", x.interrupt(0), 0);
        x.go(9);
        CHECK.same("24 takes it", x.register(0, 1), 1);
        CHECK.same("it is gone", x.register(0, 2), 0);
        CHECK.same("ENDED", x.interrupt(0), 9);
        CHECK.same("nothing", x.thread(0, 4), 0);
    }

    private static void waitingAtMonitor() {
        TurnHall x = new TurnHall(100);
        Halls.program(x, 0, 10, 6, 0, 14, 0, 0, 14, 0, 0, 17, 0, 1, 12, 1, 0, 0, 0, 0, 12, 3, 0, 34, 1, 0);
        x.begin(0, 0);
        x.go(100);
        CHECK.same("waits", x.state(0), 2);
        CHECK.same("has the MONITOR at once", x.interrupt(0), 0);
        CHECK.same("without MARK", x.thread(0, 4), 0);
        CHECK.same("with the COUNT it had", x.monitor(0, 1), 2);
        CHECK.same("at its HANDLER", x.thread(0, 2), 6);
        CHECK.same("which is none", x.thread(0, 3), -1);
        CHECK.same("FAULT 2", x.register(0, 3), 2);
        CHECK.same("no STEP", x.thread(0, 7), 4);
        TurnHall y = new TurnHall(100);
        Halls.program(y, 0, 14, 0, 0, 14, 0, 0, 17, 0, 1);
        Halls.program(y, 1, 14, 0, 0, 34, 1, 0, 15, 0, 0);
        y.begin(0, 0);
        y.begin(1, 0);
        y.go(100);
        CHECK.same("has to enter first", y.interrupt(0), 1);
        CHECK.same("no FAULT yet", y.count(6), 0);
        CHECK.same("in state 1 it has its MARK", y.interrupt(0), 1);
        CHECK.same("in state 1 it has its MARK", y.thread(0, 4), 1);
        y.interrupt(1);
        y.go(100);
        CHECK.same("FAULT 2 when it has it", y.thread(0, 6), 2);
        CHECK.same("ENDED by it", y.state(0), 10);
        CHECK.same("what it holds it keeps", y.monitor(0, 0), 0);
        CHECK.same("with its COUNT", y.monitor(0, 1), 2);
        CHECK.same("its MARK stays", y.thread(0, 4), 1);
    }

    /** One that was interrupted while it waited enters again: its FAULT came once. */
    private static void faultComesOnce() {
        TurnHall x = new TurnHall(100);
        Halls.program(x, 0, 10, 3, 0, 14, 0, 0, 17, 0, 1, 15, 0, 0, 34, 1, 0, 24, 2, 0, 14, 0, 0, 12, 3, 0);
        Halls.program(x, 1, 14, 0, 0, 34, 1, 0, 15, 0, 0);
        x.begin(0, 0);
        x.go(100);
        x.interrupt(0);
        x.go(100);
        x.begin(1, 0);
        x.go(100);
        x.interrupt(0);
        x.go(100);
        CHECK.same("it has to wait", x.state(0), 1);
        x.interrupt(1);
        x.go(100);
        CHECK.same("it has the MONITOR without FAULT", x.state(0), 9);
        CHECK.same("FAULTS", x.count(6), 1);
        CHECK.same("notes", Halls.notes(x), "0:2");
    }

    private static void enteringAndLocking() {
        TurnHall x = new TurnHall(100);
        Halls.program(x, 0, 14, 0, 0, 26, 0, 0, 34, 1, 0, 15, 0, 0, 28, 0, 0);
        Halls.program(x, 1, 14, 0, 0);
        Halls.program(x, 2, 25, 0, 0);
        Halls.program(x, 3, 26, 0, 0);
        x.begin(0, 0);
        x.begin(1, 0);
        x.begin(2, 0);
        x.begin(3, 0);
        x.go(100);
        CHECK.same("ENTERING", x.interrupt(1), 1);
        CHECK.same("reader", x.interrupt(2), 5);
        CHECK.same("writer", x.interrupt(3), 5);
        CHECK.same("MARKS", x.thread(1, 4) + x.thread(2, 4) + x.thread(3, 4), 3);
        CHECK.same("no FAULT", x.count(6), 0);
        x.interrupt(0);
        x.go(100);
        CHECK.same("they had theirs", x.state(1) * 100 + x.state(2) * 10 + x.state(3), 995);
    }

    private static void sleepingAndJoining() {
        TurnHall x = new TurnHall(100);
        Halls.program(x, 0, 20, 0, 0);
        Halls.program(x, 1, 10, 2, 0, 22, 0, 1, 12, 3, 0);
        x.begin(0, 9);
        x.begin(1, 0);
        x.begin(1, 1);
        x.go(100);
        CHECK.same("joins", x.state(1), 4);
        CHECK.same("joiner has FAULT 2 at once", x.interrupt(1), 0);
        CHECK.same("no MARK", x.thread(1, 4), 0);
        CHECK.same("sleeper ENDED by it", x.interrupt(0), 10);
        CHECK.same("FAULT", x.thread(0, 6), 2);
        CHECK.same("FAULTS ever", x.count(6), 2);
        x.go(100);
        CHECK.same("who joined 1 goes on with it", x.state(2), 9);
        CHECK.same("notes", Halls.notes(x), "1:2 2:0");
        CHECK.same("nothing is due", x.tick(100), 0);
    }

    private static void taking() {
        TurnHall x = new TurnHall(100);
        Halls.program(x, 0, 29, 3, 0, 12, 0, 0);
        x.begin(0, 5);
        x.begin(0, 2);
        x.begin(0, 1);
        x.supply(3, 3);
        x.go(100);
        CHECK.same("all wait behind the first", x.semaphore(3, 1), 3);
        CHECK.same("the first has FAULT 2", x.interrupt(0), 10);
        CHECK.same("those behind have theirs", x.semaphore(3, 1), 0);
        CHECK.same("those behind have theirs", x.semaphore(3, 0), 0);
        CHECK.same("they go on", x.count(1), 2);
        TurnHall y = new TurnHall(100);
        Halls.program(y, 0, 29, 3, 0, 12, 0, 0);
        y.begin(0, 5);
        y.begin(0, 2);
        y.begin(0, 1);
        y.go(100);
        CHECK.same("one in the middle", y.interrupt(1), 10);
        CHECK.same("the others wait on", y.semaphore(3, 1), 2);
        y.interrupt(2);
        y.begin(0, 4);
        y.go(9);
        CHECK.same("the last of them", y.semaphore(3, 1), 2);
        CHECK.same("supply", y.supply(3, 9), 0);
        y.go(9);
        CHECK.same("order", Halls.notes(y), "0:5 3:4");
    }

    private static void gathering() {
        TurnHall x = new TurnHall(100);
        x.parties(7, 4);
        Halls.program(x, 0, 10, 2, 0, 32, 7, 0, 12, 3, 0);
        x.begin(0, 0);
        x.begin(0, 0);
        x.begin(0, 9);
        x.go(100);
        CHECK.same("come", x.barrier(7, 1), 3);
        CHECK.same("FAULT 2 and on", x.interrupt(1), 0);
        CHECK.same("broken", x.barrier(7, 2), 1);
        CHECK.same("empty", x.barrier(7, 1), 0);
        CHECK.same("FAULTS", x.register(0, 3) * 100 + x.register(1, 3) * 10 + x.register(2, 3), 424);
        CHECK.same("no MARK", x.thread(1, 4), 0);
        CHECK.same("nothing is due", x.tick(100), 0);
    }

    private static void parked() {
        TurnHall x = new TurnHall(100);
        Halls.program(x, 0, 34, 0, 0, 34, 0, 0, 24, 1, 0, 34, 0, 0);
        x.begin(0, 0);
        x.go(100);
        CHECK.same("goes on", x.interrupt(0), 0);
        CHECK.same("with its MARK", x.thread(0, 4), 1);
        CHECK.same("and parks no more till that goes", x.go(2), 2);
        CHECK.same("the MARK was there", x.register(0, 1), 1);
        CHECK.same("now it parks", x.go(9), 3);
        CHECK.same("no FAULT", x.count(6), 0);
    }

    /** A STEP that may be interrupted, done with the MARK by a THREAD with R[0] as told: its FAULT and MARK. */
    private static int marked(long r, long... steps) {
        TurnHall x = new TurnHall(100);
        Halls.program(x, 0, steps);
        x.begin(0, r);
        x.interrupt(0);
        x.go(100);
        return x.thread(0, 6) * 10 + x.thread(0, 4);
    }

    private static void markIsMetBeforeTheWait() {
        CHECK.same("17", marked(0, 14, 0, 0, 17, 0, 0), 20);
        CHECK.same("17 behind FAULT 1", marked(0, 17, 0, 0), 11);
        CHECK.same("17 behind FAULT 3", marked(-1, 14, 0, 0, 17, 0, 0), 31);
        CHECK.same("20", marked(0, 20, 0, 0), 20);
        CHECK.same("20 behind FAULT 3", marked(-1, 20, 0, 0), 31);
        CHECK.same("22", marked(0, 22, 0, 0), 20);
        CHECK.same("22 behind FAULT 3", marked(0, 1, 1, -1, 22, 0, 1), 31);
        CHECK.same("29 though they are there", marked(0, 29, 0, 0), 20);
        CHECK.same("29 behind FAULT 3", marked(-1, 29, 0, 0), 31);
        CHECK.same("31 as 29", marked(0, 31, 0, 0), 20);
        CHECK.same("32", marked(0, 32, 0, 0), 20);
        CHECK.same("32 behind FAULT 3", marked(-1, 32, 0, 0), 31);
        CHECK.same("34 goes on", marked(0, 34, 0, 0), 1);
        CHECK.same("34 below 0", marked(-1, 34, 0, 0), 31);
        CHECK.same("14, 16, 25, 26, 30 do not care", marked(0, 14, 0, 0, 16, 0, 0, 25, 0, 0, 27, 0, 0, 26, 0, 0, 30, 0,
            0), 1);
        TurnHall x = new TurnHall(100);
        x.parties(0, 2);
        Halls.program(x, 0, 32, 0, 0);
        x.begin(0, 0);
        x.go(9);
        x.begin(0, 0);
        x.interrupt(1);
        x.go(9);
        CHECK.same("the BARRIER breaks by a MARK", x.barrier(0, 2), 1);
        CHECK.same("FAULTS", x.thread(0, 6) * 10 + x.thread(1, 6), 42);
        x.begin(0, 0);
        x.interrupt(2);
        x.go(9);
        CHECK.same("a broken one comes before the MARK", x.thread(2, 6) * 10 + x.thread(2, 4), 41);
    }

    private static void byStep() {
        TurnHall x = new TurnHall(100);
        Halls.program(x, 0, 20, 0, 0);
        Halls.program(x, 1, 1, 0, 0, 23, 0, 0, 1, 0, 1, 23, 0, 0, 24, 2, 0, 23, 1, 0, 23, 0, 0);
        x.begin(0, 5);
        x.begin(1, 0);
        x.go(100);
        CHECK.same("the sleeper", x.thread(0, 6), 2);
        CHECK.same("itself", x.register(1, 2), 1);
        CHECK.same("itself again", x.thread(1, 4), 1);
        CHECK.same("no such one", Halls.faultOf(1, 23, 0, 0), 6);
        CHECK.same("no such one", Halls.faultOf(-1, 23, 0, 0), 6);
        CHECK.same("no such one", Halls.faultOf(1L << 32, 23, 0, 0), 6);
    }
}
