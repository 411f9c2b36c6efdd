/** STEPS 14 to 19 and promises 16 and 21 at their edges; each check names the document's words. */
public final class MonitorEdgesTest {
    private static final Check CHECK = new Check("MonitorEdgesTest");
    private static final long MOST = Long.MAX_VALUE;

    public static void main(String[] args) {
        countIsOneMore();
        endOfEntering();
        exitOfNotItsOwn();
        firstOfEntering();
        countThatItAskedFor();
        tries();
        ticksOfWait();
        waitOfNotItsOwn();
        givesUpWhole();
        endOfWaiting();
        state1OrAtOnce();
        interruptedWait();
        notice();
        noticeAll();
        monitorTells();
        ringsOfMonitors();
        ringsOfJoins();
        noRings();
        CHECK.finish();
    }

    /** PROGRAM 9 enters MONITOR 0 and parks; interrupted it exits and ends. */
    private static void putHolder(TurnHall x) {
        Halls.program(x, 9, 14, 0, 0, 34, 1, 0, 15, 0, 0);
    }

    private static void countIsOneMore() {
        CHECK.sentence("14 enter MONITOR a: if nobody owns it, or the THREAD, its COUNT is one more");
        TurnHall x = Halls.with(1000, 14, 0, 0, 5, 0, 0);
        x.begin(0, 0);
        x.go(1);
        CHECK.same("nobody's", Halls.monitor(x, 0), "0 1 0 0 -1 -1");
        x.go(2);
        CHECK.same("its own", Halls.monitor(x, 0), "0 2 0 0 -1 -1");
        x.go(19997);
        CHECK.same("many times", Halls.monitor(x, 0), "0 10000 0 0 -1 -1");
    }

    private static void endOfEntering() {
        CHECK.sentence("else it comes to the end of ENTERING (state 1)");
        TurnHall x = Halls.with(9, 14, 0, 0, 12, 0, 0, 15, 0, 0);
        putHolder(x);
        Halls.run(x, 9);
        x.begin(0, 0);
        x.begin(0, 0);
        x.begin(0, 0);
        x.schedule(3, 1);
        x.schedule(1, 1);
        x.go(9);
        CHECK.same("states", Halls.states(x), "8 1 1 1");
        CHECK.same("the first that came is the first", Halls.monitor(x, 0), "0 1 3 0 3 -1");
        x.interrupt(0);
        x.go(99);
        CHECK.same("in their order", Halls.notes(x), "3:0 1:0 2:0");
    }

    private static void exitOfNotItsOwn() {
        CHECK.sentence("15 exit: not its owner: FAULT 1; COUNT one less");
        CHECK.same("nobody's", Halls.faultOf(0, 15, 0, 0), 1);
        CHECK.same("once too often", Halls.faultOf(0, 14, 0, 0, 15, 0, 0, 15, 0, 0), 1);
        CHECK.same("another MONITOR", Halls.faultOf(0, 14, 0, 0, 15, 1, 0), 1);
        TurnHall x = Halls.with(9, 15, 0, 0);
        putHolder(x);
        Halls.run(x, 9, 0);
        CHECK.same("another one's", Halls.faults(x), "0 1");
        CHECK.same("it stays his", Halls.monitor(x, 0), "0 1 0 0 -1 -1");
        TurnHall y = Halls.with(9, 14, 0, 0, 14, 0, 0, 15, 0, 0, 0, 0, 0);
        y.begin(0, 0);
        y.go(3);
        CHECK.same("one less", Halls.monitor(y, 0), "0 1 0 0 -1 -1");
    }

    private static void firstOfEntering() {
        CHECK.sentence("at 0 the first of ENTERING owns it (with the COUNT that it asked for)");
        TurnHall x = Halls.with(9, 14, 0, 0, 34, 1, 0);
        putHolder(x);
        Halls.run(x, 9, 0, 0);
        x.interrupt(0);
        x.go(1);
        CHECK.same("1 owns it before it does a STEP", Halls.monitor(x, 0), "1 1 1 0 2 -1");
        CHECK.same("1 is READY", Halls.states(x), "9 0 1");
        TurnHall y = new TurnHall(9);
        putHolder(y);
        Halls.run(y, 9);
        y.interrupt(0);
        y.go(1);
        CHECK.same("nobody is there", Halls.monitor(y, 0), "-1 0 0 0 -1 -1");
    }

    private static void countThatItAskedFor() {
        TurnHall x = Halls.with(9, 14, 0, 0, 14, 0, 0, 14, 0, 0, 17, 0, 1, 34, 1, 0);
        Halls.program(x, 1, 14, 0, 0, 18, 0, 0, 15, 0, 0);
        Halls.program(x, 2, 14, 0, 0, 34, 1, 0);
        x.begin(0, 0);
        x.go(9);
        x.begin(1, 0);
        x.begin(2, 0);
        x.schedule(1, 1);
        x.schedule(2, 1);
        x.schedule(1, 1);
        x.go(3);
        CHECK.same("two are ENTERING, 2 came first", Halls.monitor(x, 0), "1 1 2 0 2 -1");
        x.go(1);
        CHECK.same("2 asked for 1", Halls.monitor(x, 0), "2 1 1 0 0 -1");
        TurnHall y = Halls.with(9, 14, 0, 0, 14, 0, 0, 14, 0, 0, 17, 0, 1, 34, 1, 0);
        Halls.program(y, 1, 14, 0, 0, 18, 0, 0, 15, 0, 0);
        Halls.run(y, 0, 1);
        CHECK.same("0 asked for 3", Halls.monitor(y, 0), "0 3 0 0 -1 -1");
    }

    private static void tries() {
        CHECK.sentence("16 try: as 14, but where it would wait R[b] becomes 0, else 1");
        TurnHall x = Halls.with(9, 16, 0, 0, 16, 0, 1, 34, 2, 0);
        x.begin(0, 7);
        x.go(9);
        CHECK.same("nobody's, its own", x.register(0, 0) * 10 + x.register(0, 1), 11);
        CHECK.same("COUNT", Halls.monitor(x, 0), "0 2 0 0 -1 -1");
        Halls.program(x, 1, 1, 3, 7, 16, 0, 3, 0, 0, 0);
        x.begin(1, 0);
        x.go(2);
        CHECK.same("another one's", x.register(1, 3), 0);
        CHECK.same("it does not wait", Halls.monitor(x, 0), "0 2 0 0 -1 -1");
        CHECK.same("it goes on", x.state(1), 0);
    }

    private static void ticksOfWait() {
        CHECK.sentence("17 wait at MONITOR a, R[b] ticks (below 0: FAULT 3; 0: without end)");
        for (long below : new long[] {-1, Long.MIN_VALUE}) {
            TurnHall x = Halls.with(9, 14, 0, 0, 17, 0, 0);
            x.begin(0, below);
            x.go(9);
            CHECK.same(below + " ticks", x.thread(0, 6), 3);
            CHECK.same("it has the MONITOR still", Halls.monitor(x, 0), "0 1 0 0 -1 -1");
            CHECK.same("FAULT 3 comes before FAULT 1", Halls.faultOf(below, 17, 0, 0), 3);
        }
        TurnHall y = Halls.with(9, 14, 0, 0, 17, 0, 0);
        y.begin(0, 0);
        y.begin(0, 1);
        y.begin(0, MOST);
        y.go(9);
        CHECK.same("one tick", y.tick(1), 1);
        CHECK.same("the others without end", y.tick(1000000), 0);
        CHECK.same("states", Halls.states(y), "2 9 2");
        y.begin(0, MOST);
        y.go(9);
        CHECK.same("far ahead of THE CLOCK", y.tick(1), 0);
    }

    private static void waitOfNotItsOwn() {
        CHECK.sentence("not its owner: FAULT 1; may be interrupted");
        CHECK.same("nobody's", Halls.faultOf(0, 17, 0, 0), 1);
        TurnHall x = Halls.with(9, 17, 0, 0);
        putHolder(x);
        Halls.run(x, 9, 0);
        CHECK.same("another one's", Halls.faults(x), "0 1");
        x.begin(0, 0);
        x.interrupt(2);
        x.go(9);
        CHECK.same("FAULT 1 comes before FAULT 2", x.thread(2, 6) * 10 + x.thread(2, 4), 11);
        TurnHall y = Halls.with(9, 14, 0, 0, 14, 0, 0, 17, 0, 0);
        y.begin(0, 0);
        y.interrupt(0);
        y.go(9);
        CHECK.same("FAULT 2", y.thread(0, 6) * 10 + y.thread(0, 4), 20);
        CHECK.same("it did not give up the MONITOR", Halls.monitor(y, 0), "0 2 0 0 -1 -1");
    }

    private static void givesUpWhole() {
        CHECK.sentence("it gives up the MONITOR whole and comes to the end of WAITING (state 2)");
        TurnHall x = Halls.with(99, 14, 0, 0, 14, 0, 0, 14, 0, 0, 14, 0, 0, 14, 0, 0, 17, 0, 0);
        Halls.run(x, 0);
        CHECK.same("nobody owns it", Halls.monitor(x, 0), "-1 0 0 1 -1 0");
        CHECK.same("state", x.state(0), 2);
        TurnHall y = Halls.with(1, 14, 0, 0, 14, 0, 0, 17, 0, 0);
        Halls.program(y, 1, 14, 0, 0, 34, 0, 0);
        Halls.run(y, 0, 1);
        CHECK.same("the first of ENTERING owns it", Halls.monitor(y, 0), "1 1 0 1 -1 0");
    }

    private static void endOfWaiting() {
        TurnHall x = Halls.with(9, 14, 0, 0, 17, 0, 0, 12, 0, 0, 15, 0, 0);
        Halls.program(x, 1, 14, 0, 0, 18, 0, 0, 15, 0, 0);
        x.begin(0, 0);
        x.begin(0, 0);
        x.begin(0, 0);
        x.schedule(2, 9);
        x.schedule(0, 9);
        x.go(9);
        CHECK.same("2 came first", Halls.monitor(x, 0), "-1 0 0 3 -1 2");
        Halls.run(x, 1, 1, 1);
        CHECK.same("in their order", Halls.notes(x), "2:0 0:0 1:0");
    }

    private static void state1OrAtOnce() {
        CHECK.sentence("Noticed, interrupted, or by time it leaves that and asks for the MONITOR with the COUNT it "
            + "had (state 1, or at once)");
        for (int way = 0; way < 2; way++) {
            TurnHall x = Halls.with(9, 10, 4, 0, 14, 0, 0, 14, 0, 0, 17, 0, 0, 34, 1, 0);
            putHolder(x);
            x.begin(0, 5);
            x.go(9);
            x.begin(9, 0);
            x.go(9);
            CHECK.same("another one owns it", Halls.monitor(x, 0), "1 1 0 1 -1 0");
            CHECK.same("the call tells", way == 0 ? x.tick(5) : x.interrupt(0), 1);
            CHECK.same("state 1", x.state(0), 1);
            CHECK.same("ENTERING", Halls.monitor(x, 0), "1 1 1 0 0 -1");
            CHECK.same("nothing more is due", x.tick(1000000), 0);
            x.interrupt(1);
            x.go(1);
            CHECK.same("with the COUNT it had", Halls.monitor(x, 0), "0 2 0 0 -1 -1");
            CHECK.same("a FAULT only if it was interrupted", x.register(0, 3), way == 0 ? 0 : 2);
            TurnHall y = Halls.with(9, 10, 4, 0, 14, 0, 0, 14, 0, 0, 17, 0, 0, 34, 1, 0);
            y.begin(0, 5);
            y.go(9);
            CHECK.same("the call tells", way == 0 ? y.tick(5) : y.interrupt(0), way == 0 ? 1 : 0);
            CHECK.same("at once", Halls.monitor(y, 0), "0 2 0 0 -1 -1");
            CHECK.same("READY", y.state(0), 0);
            CHECK.same("a FAULT only if it was interrupted", y.register(0, 3), way == 0 ? 0 : 2);
        }
    }

    private static void interruptedWait() {
        CHECK.sentence("interrupted: FAULT 2 when it has it");
        TurnHall x = Halls.with(9, 14, 0, 0, 17, 0, 1);
        putHolder(x);
        Halls.run(x, 0, 9);
        CHECK.same("it has to wait for the MONITOR", x.interrupt(0), 1);
        CHECK.same("no FAULT yet", x.count(6), 0);
        CHECK.same("no MARK", x.thread(0, 4), 0);
        x.interrupt(1);
        x.go(1);
        CHECK.same("FAULT 2 then", x.thread(0, 6), 2);
        CHECK.same("the MONITOR is its own", Halls.monitor(x, 0), "0 1 0 0 -1 -1");
        TurnHall y = Halls.with(9, 14, 0, 0, 17, 0, 1);
        y.begin(0, 0);
        y.go(9);
        CHECK.same("at once", y.interrupt(0), 10);
        CHECK.same("the MONITOR is its own", Halls.monitor(y, 0), "0 1 0 0 -1 -1");
        TurnHall z = Halls.with(9, 14, 0, 0, 17, 0, 0);
        putHolder(z);
        z.begin(0, 3);
        z.go(9);
        Halls.run(z, 9);
        z.tick(3);
        CHECK.same("its time was over: it is no more one that waits", z.interrupt(0), 1);
        CHECK.same("it has its MARK", z.thread(0, 4), 1);
        z.interrupt(1);
        z.go(9);
        CHECK.same("and no FAULT", Halls.faults(z), "0 0");
        TurnHall w = Halls.with(9, 10, 3, 0, 14, 0, 0, 17, 0, 1, 15, 0, 0, 20, 1, 0, 14, 0, 0, 12, 3, 0);
        putHolder(w);
        w.begin(0, 0);
        w.go(9);
        w.interrupt(0);
        w.go(9);
        Halls.run(w, 9);
        w.tick(1);
        w.go(9);
        CHECK.same("it enters again and has to wait", Halls.states(w), "1 8");
        w.interrupt(1);
        CHECK.same("it has the MONITOR and no second FAULT", w.go(9) * 10 + w.count(6), 11);
    }

    private static void notice() {
        CHECK.sentence("18 notice: not its owner: FAULT 1; the first of WAITING");
        CHECK.same("nobody's", Halls.faultOf(0, 18, 0, 0), 1);
        CHECK.same("none is WAITING", Halls.faultOf(0, 14, 0, 0, 18, 0, 0), 0);
        TurnHall x = Halls.with(9, 18, 0, 0);
        putHolder(x);
        Halls.run(x, 9, 0);
        CHECK.same("another one's", Halls.faults(x), "0 1");
        TurnHall y = Halls.with(9, 14, 0, 0, 17, 0, 0);
        Halls.program(y, 1, 14, 0, 0, 18, 0, 0, 34, 1, 0);
        y.begin(0, 0);
        y.begin(0, 5);
        y.go(9);
        Halls.run(y, 1);
        CHECK.same("one of two", Halls.monitor(y, 0), "2 1 1 1 0 1");
        CHECK.same("the other one has its time still", y.tick(5), 1);
        CHECK.same("and asks behind it", Halls.monitor(y, 0), "2 1 2 0 0 -1");
    }

    private static void noticeAll() {
        CHECK.sentence("19: all of them, in order");
        CHECK.same("nobody's", Halls.faultOf(0, 19, 0, 0), 1);
        CHECK.same("none is WAITING", Halls.faultOf(0, 14, 0, 0, 19, 0, 0), 0);
        TurnHall x = Halls.with(9, 19, 0, 0);
        putHolder(x);
        Halls.run(x, 9, 0);
        CHECK.same("another one's", Halls.faults(x), "0 1");
        TurnHall y = Halls.with(9, 14, 0, 0, 17, 0, 0, 12, 0, 0, 15, 0, 0);
        Halls.program(y, 1, 14, 0, 0, 34, 1, 0, 19, 0, 0, 34, 1, 0, 24, 0, 0, 34, 1, 0, 15, 0, 0);
        Halls.program(y, 2, 14, 0, 0, 12, 0, 0, 15, 0, 0);
        for (int t = 0; t < 62; t++) {
            y.begin(0, 0);
        }
        y.go(999);
        Halls.run(y, 1, 2);
        CHECK.same("62 are WAITING, one is ENTERING", Halls.monitor(y, 0), "62 1 1 62 63 0");
        y.interrupt(62);
        y.go(9);
        CHECK.same("behind the one that was ENTERING", Halls.monitor(y, 0), "62 1 63 0 63 -1");
        y.interrupt(62);
        y.go(999);
        CHECK.same("63 notes", y.count(4), 63);
        CHECK.same("the first is the one that entered", y.note(0, false), 63);
        int wrong = 0;
        for (int i = 1; i < 63; i++) {
            wrong += y.note(i, false) == i - 1 ? 0 : 1;
        }
        CHECK.same("then all, in order", wrong, 0);
    }

    private static void monitorTells() {
        CHECK.sentence("Of MONITOR m, what 0: its owner (-1), 1: COUNT, 2: those ENTERING, 3: those WAITING; 4 and "
            + "5: the first of them (-1)");
        TurnHall x = new TurnHall(1);
        for (int m = 0; m < 8; m++) {
            CHECK.same("a new one", Halls.monitor(x, m), "-1 0 0 0 -1 -1");
        }
        for (int no : new int[] {-1, 8, Integer.MIN_VALUE, Integer.MAX_VALUE}) {
            CHECK.bad("MONITOR " + no, () -> x.monitor(no, 0));
        }
        for (int no : new int[] {-1, 6, Integer.MIN_VALUE, Integer.MAX_VALUE}) {
            CHECK.bad("what " + no, () -> x.monitor(0, no));
        }
    }

    private static void ringsOfMonitors() {
        CHECK.sentence("THREAD t waits in state 1 for a MONITOR's owner, or in 4 for a THREAD, that one again, and "
            + "so on till t comes again: how many they are; 0 if it does not");
        TurnHall x = new TurnHall(1);
        for (int t = 0; t < 8; t++) {
            Halls.program(x, t, 14, t, 0, 14, (t + 1) % 8, 0);
        }
        Halls.run(x, 0, 1, 2, 3, 4, 5, 6, 7);
        for (int t = 0; t < 8; t++) {
            CHECK.same("eight of them", x.ring(t), 8);
        }
        Halls.program(x, 8, 14, 3, 0);
        Halls.run(x, 8);
        CHECK.same("one that waits for the ring is not in it", x.ring(8), 0);
    }

    private static void ringsOfJoins() {
        TurnHall x = Halls.with(1, 22, 0, 1);
        for (int t = 0; t < 64; t++) {
            x.begin(0, (t + 1) % 64);
        }
        x.go(64);
        CHECK.same("all 64", x.ring(0) * 1000L + x.ring(63), 64064);
        x.interrupt(5);
        CHECK.same("one has ENDED, and so has all the ring", x.count(2), 64);
        CHECK.same("none is left", x.ring(0) + x.ring(63), 0);
        TurnHall y = Halls.with(1, 22, 0, 1);
        y.begin(0, 0);
        y.begin(0, 0);
        y.go(9);
        CHECK.same("one that joins itself", y.ring(0), 1);
        CHECK.same("one that joins that one", y.ring(1), 0);
        TurnHall z = Halls.with(1, 14, 0, 0, 1, 0, 1, 22, 0, 1);
        Halls.program(z, 1, 14, 0, 0);
        Halls.run(z, 0, 1);
        CHECK.same("a join and a MONITOR", z.ring(0) * 10 + z.ring(1), 22);
    }

    private static void noRings() {
        TurnHall x = Halls.with(1, 14, 0, 0, 11, 50, 0);
        Halls.program(x, 1, 14, 0, 0);
        Halls.program(x, 2, 22, 0, 1);
        Halls.program(x, 3, 26, 0, 0, 26, 1, 0);
        Halls.program(x, 4, 26, 1, 0, 26, 0, 0);
        Halls.program(x, 5, 14, 1, 0, 17, 1, 1);
        x.begin(0, 0);
        x.begin(1, 0);
        x.begin(2, 1);
        x.begin(3, 0);
        x.begin(4, 0);
        x.begin(5, 0);
        x.begin(1, 0);
        x.go(99);
        CHECK.same("states", Halls.states(x), "10 1 4 5 5 2 1");
        CHECK.same("one that has ENDED", x.ring(0), 0);
        CHECK.same("for one that has ENDED and keeps the MONITOR", x.ring(1), 0);
        CHECK.same("for one that waits for that", x.ring(2), 0);
        CHECK.same("LOCKS make none", x.ring(3) + x.ring(4), 0);
        CHECK.same("nor does WAITING", x.ring(5), 0);
        CHECK.bad("THREAD -1", () -> x.ring(-1));
        CHECK.bad("THREAD 7", () -> x.ring(7));
        CHECK.bad("THREAD 64", () -> x.ring(64));
    }
}
