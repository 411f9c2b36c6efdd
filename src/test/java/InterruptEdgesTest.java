/** What "interrupted" means (term 3) and promise 8, in every state; each check names the document's words. */
public final class InterruptEdgesTest {
    private static final Check CHECK = new Check("InterruptEdgesTest");

    public static void main(String[] args) {
        markBeforeTheWait();
        markBehindOtherFaults();
        noMarkIsMet();
        inEachState();
        noTimeIsLeft();
        whileItWaits();
        again();
        interruptTells();
        CHECK.finish();
    }

    /** FAULT and MARK of a THREAD that had its MARK, with R[0] as told, when it did the STEPS as far as it could. */
    private static String marked(long r, long... steps) {
        TurnHall x = Halls.with(99, steps);
        x.supply(0, 5);
        x.begin(0, r);
        x.interrupt(0);
        x.go(99);
        return x.thread(0, 6) + " " + x.thread(0, 4);
    }

    private static void markBeforeTheWait() {
        CHECK.sentence("Where it may be interrupted and has its MARK: the MARK goes, FAULT 2 (behind FAULTS 3 and 1)");
        CHECK.same("17", marked(0, 14, 0, 0, 17, 0, 0), "2 0");
        CHECK.same("17 for a time", marked(9, 14, 0, 0, 17, 0, 0), "2 0");
        CHECK.same("20", marked(0, 20, 0, 0), "2 0");
        CHECK.same("20 for a time", marked(9, 20, 0, 0), "2 0");
        CHECK.same("22", marked(0, 22, 0, 0), "2 0");
        CHECK.same("22 for a time", marked(0, 1, 1, 9, 22, 0, 1), "2 0");
        CHECK.same("29, though there are so many", marked(5, 29, 0, 0), "2 0");
        CHECK.same("29 where it would wait", marked(6, 29, 0, 0), "2 0");
        CHECK.same("31 as 29", marked(5, 31, 0, 0), "2 0");
        CHECK.same("32", marked(0, 32, 0, 0), "2 0");
        CHECK.same("it goes once: the second sleep waits", marked(0, 10, 2, 0, 20, 0, 0, 20, 0, 0), "0 0");
    }

    private static void markBehindOtherFaults() {
        CHECK.same("17 behind 3", marked(-1, 14, 0, 0, 17, 0, 0), "3 1");
        CHECK.same("17 behind 1", marked(0, 17, 0, 0), "1 1");
        CHECK.same("20 behind 3", marked(-1, 20, 0, 0), "3 1");
        CHECK.same("22 behind 3", marked(0, 1, 1, -1, 22, 0, 1), "3 1");
        CHECK.same("22 behind 6", marked(1, 22, 0, 1), "6 1");
        CHECK.same("29 behind 3", marked(-1, 29, 0, 0), "3 1");
        CHECK.same("31 behind 3", marked(-1, 31, 0, 0), "3 1");
        CHECK.same("32 behind 3", marked(-1, 32, 0, 0), "3 1");
        CHECK.same("MONITOR 8", marked(0, 17, 8, 0), "3 1");
        CHECK.same("SEMAPHORE 8", marked(0, 29, 8, 0), "3 1");
        CHECK.same("BARRIER 8", marked(0, 32, 8, 0), "3 1");
        CHECK.same("REGISTER 4", marked(0, 20, 4, 0), "3 1");
    }

    private static void noMarkIsMet() {
        CHECK.same("MONITORS", marked(0, 14, 0, 0, 16, 0, 1, 18, 0, 0, 19, 0, 0, 15, 0, 0), "0 1");
        CHECK.same("LOCKS", marked(0, 25, 0, 0, 27, 0, 0, 26, 0, 0, 28, 0, 0), "0 1");
        CHECK.same("30, 33, 34, 35", marked(0, 30, 0, 0, 33, 0, 0, 34, 0, 0, 35, 0, 0, 34, 0, 0), "0 1");
        CHECK.same("21, 23", marked(0, 21, 1, 1, 23, 1, 0, 23, 0, 0), "0 1");
        CHECK.same("12, 13", marked(0, 12, 0, 0, 13, 0, 0), "0 1");
        CHECK.same("24 takes it", marked(0, 24, 0, 0, 20, 0, 0), "0 0");
    }

    /**
     * THREAD 0 holds MONITOR 0 and LOCK 0; THREAD 1 waits by the STEPS told (the last but one of PROGRAM 1), with a
     * HANDLER behind them.
     */
    private static TurnHall waiting(long... steps) {
        TurnHall x = Halls.with(99, 14, 0, 0, 26, 0, 0, 34, 1, 0);
        x.parties(0, 2);
        Halls.program(x, 1, 10, steps.length / 3 + 1, 0);
        Halls.program(x, 1, steps);
        Halls.program(x, 1, 0, 0, 0);
        Halls.program(x, 2, 1, 0, 1, 23, 0, 0);
        x.begin(0, 0);
        x.begin(1, 9);
        x.go(99);
        return x;
    }

    /** State before, by interrupt() or STEP 23; then state, MARK, FAULTS ever and REGISTER 3. */
    private static void interrupted(String what, String due, long... steps) {
        int length = steps.length / 3;
        for (int way = 0; way < 2; way++) {
            TurnHall x = waiting(steps);
            String before = x.state(1) + " > ";
            if (way == 0) {
                CHECK.same(what + ": its state then", x.interrupt(1), Long.parseLong(due.split(" ")[2]));
            } else {
                x.schedule(x.begin(2, 0), 2);
                x.go(2);
            }
            CHECK.same(what + (way == 0 ? " by interrupt()" : " by STEP 23"), before + x.state(1) + " " + x.thread(1, 4)
                + " " + x.count(6) + " " + x.register(1, 3), due);
            CHECK.same(what + ": no STEP", x.thread(1, 7), length + 1);
        }
    }

    private static void inEachState() {
        CHECK.sentence("who is in state 3, 4 or 6 has FAULT 2 at once, in 2 as told, in 7 as told; in 8 goes on with "
            + "its MARK; READY, in 1 or 5 it has its MARK; ENDED nothing");
        interrupted("state 1", "1 > 1 1 0 0", 14, 0, 0);
        interrupted("state 2", "2 > 0 0 1 2", 14, 1, 0, 17, 1, 0);
        interrupted("state 2 without end", "2 > 0 0 1 2", 14, 1, 0, 17, 1, 1);
        interrupted("state 3", "3 > 0 0 1 2", 20, 0, 0);
        interrupted("state 4", "4 > 0 0 1 2", 22, 1, 0);
        interrupted("state 4 without end", "4 > 0 0 1 2", 22, 1, 1);
        interrupted("state 5, a reader", "5 > 5 1 0 0", 25, 0, 0);
        interrupted("state 5, a writer", "5 > 5 1 0 0", 26, 0, 0);
        interrupted("state 6", "6 > 0 0 1 2", 29, 0, 0);
        interrupted("state 7", "7 > 0 0 1 2", 32, 0, 0);
        interrupted("state 7 without end", "7 > 0 0 1 2", 32, 0, 1);
        interrupted("state 8", "8 > 0 1 0 0", 34, 0, 0);
        interrupted("state 8 without end", "8 > 0 1 0 0", 34, 1, 0);
        TurnHall x = Halls.with(9, 0, 0, 0);
        x.begin(0, 0);
        CHECK.same("READY: its state then", x.interrupt(0), 0);
        CHECK.same("READY", Halls.thread(x, 0), "1 0 0 -1 1 0 0 0");
        Halls.program(x, 2, 11, 50, 0);
        Halls.run(x, 1, 2);
        CHECK.same("ENDED: its state then", x.interrupt(1), 9);
        CHECK.same("ENDED: nothing", Halls.thread(x, 1), "0 -1 -1 -1 0 0 0 0");
        CHECK.same("ENDED by a FAULT: its state then", x.interrupt(2), 10);
        CHECK.same("ENDED by a FAULT: nothing", Halls.thread(x, 2), "0 -1 -1 -1 0 0 50 1");
        CHECK.same("one with its MARK that has ENDED keeps it", x.thread(0, 4), 1);
    }

    private static void noTimeIsLeft() {
        long[][] timed = {{14, 1, 0, 17, 1, 0}, {20, 0, 0}, {22, 1, 0}, {32, 0, 0}, {34, 0, 0}};
        for (long[] steps : timed) {
            TurnHall x = waiting(steps);
            x.interrupt(1);
            CHECK.same("no time of STEP " + steps[steps.length - 3] + " is due any more", x.tick(1000000), 0);
            CHECK.same("READY", x.state(1), 0);
        }
        TurnHall y = waiting(29, 0, 0);
        y.interrupt(1);
        CHECK.same("nor does it want any of the SEMAPHORE", y.supply(0, 100), 100);
    }

    private static void whileItWaits() {
        CHECK.sentence("A FAULT while it waits is at its PLACE, no STEP");
        TurnHall x = Halls.with(9, 10, 2, 0, 8, 1, 0, 0, 0, 0);
        Halls.program(x, 1, 8, 2, 0, 0, 0, 0);
        Halls.program(x, 2, 20, 0, 0);
        x.begin(0, 5);
        x.go(9);
        CHECK.same("it sleeps behind its last STEP", Halls.thread(x, 0), "3 2 1 -1 0 0 0 4");
        CHECK.same("caught by the outermost CALL", x.interrupt(0), 0);
        CHECK.same("those within are left, no STEP", Halls.thread(x, 0), "1 0 2 -1 0 0 0 4");
        CHECK.same("STEPS ever", x.count(3), 4);
        TurnHall y = Halls.with(9, 10, 1, 0, 20, 0, 0);
        y.begin(0, 5);
        y.go(9);
        y.interrupt(0);
        CHECK.same("a HANDLER at the very STEP", Halls.thread(y, 0), "1 0 1 -1 0 0 0 2");
        y.go(9);
        CHECK.same("it sleeps again, without HANDLER", y.interrupt(0), 10);
        CHECK.same("ENDED by it", Halls.thread(y, 0), "0 -1 -1 -1 0 0 2 3");
    }

    private static void again() {
        CHECK.sentence("READY, in 1 or 5 it has its MARK");
        TurnHall x = waiting(14, 0, 0, 20, 1, 0);
        x.interrupt(1);
        x.interrupt(1);
        CHECK.same("one MARK", x.thread(1, 4) * 10 + x.state(1), 11);
        Halls.program(x, 0, 15, 0, 0);
        x.interrupt(0);
        x.go(1);
        CHECK.same("it has the MONITOR and its MARK", x.monitor(0, 0) * 100 + x.thread(1, 4) * 10 + x.state(1), 110);
        x.go(1);
        CHECK.same("which it meets where it may be interrupted", x.register(1, 3) * 10 + x.thread(1, 4), 20);
    }

    private static void interruptTells() {
        CHECK.sentence("THREAD t is interrupted: its state then. BAD");
        TurnHall x = Halls.with(9, 20, 0, 0);
        CHECK.bad("there is none", () -> x.interrupt(0));
        x.begin(0, 1);
        x.go(9);
        for (int no : new int[] {-1, 1, 63, 64, Integer.MIN_VALUE, Integer.MAX_VALUE}) {
            CHECK.bad("THREAD " + no, () -> x.interrupt(no));
        }
        CHECK.same("nothing is changed", x.state(0), 3);
        CHECK.same("behind the FAULT", x.interrupt(0), 10);
    }
}
