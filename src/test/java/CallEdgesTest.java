/** Term 4 and the promises that no other EdgesTest has, at their edges; each check names the document's words. */
public final class CallEdgesTest {
    private static final Check CHECK = new Check("CallEdgesTest");
    private static final int LEAST = Integer.MIN_VALUE;
    private static final int MOST = Integer.MAX_VALUE;

    public static void main(String[] args) {
        quantum();
        newObject();
        put();
        drop();
        dropWhileCalled();
        begin();
        schedule();
        goBounds();
        goTellsInThisOrder();
        tickBounds();
        tickTellsWhoWasDue();
        cells();
        stateAndThread();
        notes();
        counts();
        clockBits();
        CHECK.finish();
    }

    private static void quantum() {
        CHECK.sentence("QUANTUM (1 to 1000; others count as the nearest)");
        int[][] due = {
            {LEAST, 1}, {-1, 1}, {0, 1}, {1, 1}, {2, 2}, {999, 999}, {1000, 1000}, {1001, 1000}, {MOST, 1000},
        };
        for (int[] q : due) {
            TurnHall x = Halls.with(q[0], 5, 0, 0);
            x.begin(0, 0);
            x.begin(0, 0);
            x.go(q[1]);
            CHECK.same("QUANTUM " + q[0] + ", the first one's", x.thread(0, 7) * 10000 + x.thread(1, 7), q[1] * 10000);
            x.go(1);
            CHECK.same("QUANTUM " + q[0] + ", then the next", x.thread(1, 7), 1);
        }
    }

    private static void newObject() {
        CHECK.sentence("PROGRAMS are empty, BARRIERS have one PARTY, SEMAPHORES nothing");
        TurnHall x = new TurnHall(0);
        for (int p = 0; p < 16; p++) {
            CHECK.same("PROGRAM " + p, x.drop(p), 0);
        }
        for (int i = 0; i < 8; i++) {
            CHECK.same("BARRIER " + i, Halls.barrier(x, i), "1 0 0 0");
            CHECK.same("SEMAPHORE " + i, Halls.semaphore(x, i), "0 0");
        }
        CHECK.same("no THREADS", x.count(0), 0);
        CHECK.same("so all have ENDED", x.go(1), 1);
    }

    private static void put() {
        CHECK.sentence("PROGRAM p has one STEP more: its PLACE. BAD; IllegalStateException: it has 200");
        TurnHall x = new TurnHall(1);
        for (int i = 0; i < 200; i++) {
            CHECK.same("its PLACE", x.put(3, 12, 0, 0), i);
        }
        CHECK.refused("it has 200", () -> x.put(3, 0, 0, 0));
        CHECK.refused("of whatever kind", () -> x.put(3, -1, 0, 0));
        CHECK.bad("what is BAD is told of another", () -> x.put(16, 0, 0, 0));
        CHECK.same("another one has room", x.put(4, 0, 0, 0), 0);
        x.begin(3, 0);
        CHECK.same("200 STEPS are done", x.go(200), 1);
        CHECK.same("all of them", x.count(4), 200);
        CHECK.same("it had 200", x.drop(3), 200);
        CHECK.same("and begins anew", x.put(3, 0, 0, 0), 0);
        for (int op : new int[] {LEAST, -1, 36, MOST}) {
            CHECK.same("every operation is one", x.put(5, op, Long.MIN_VALUE, Long.MAX_VALUE) >= 0 ? 1 : 0, 1);
        }
    }

    private static void drop() {
        CHECK.sentence("PROGRAM p is empty again: how many STEPS it had");
        TurnHall x = Halls.with(1, 0, 0, 0, 0, 0, 0);
        CHECK.same("two", x.drop(0), 2);
        CHECK.same("none", x.drop(0), 0);
        Halls.program(x, 0, 12, 0, 0);
        x.begin(0, 7);
        CHECK.same("what is put then is done", x.go(9), 1);
        CHECK.same("and nothing else", Halls.notes(x) + " " + x.count(3), "0:7 1");
        x.drop(0);
        x.begin(0, 0);
        CHECK.same("an empty one", x.state(1), 9);
    }

    private static void dropWhileCalled() {
        CHECK.sentence("IllegalStateException: a THREAD that has not ENDED has a CALL of it");
        TurnHall x = Halls.with(9, 8, 1, 0, 34, 0, 0);
        Halls.program(x, 1, 8, 2, 0);
        Halls.program(x, 2, 0, 0, 0, 34, 0, 0, 0, 0, 0);
        Halls.program(x, 3, 0, 0, 0);
        x.begin(0, 0);
        CHECK.refused("READY", () -> x.drop(0));
        CHECK.same("not called yet", x.drop(3), 1);
        x.go(9);
        CHECK.same("waits in three CALLS", x.state(0) * 10 + x.thread(0, 0), 83);
        CHECK.refused("the outermost", () -> x.drop(0));
        CHECK.refused("behind its last STEP, with a CALL in it", () -> x.drop(1));
        CHECK.refused("the innermost", () -> x.drop(2));
        CHECK.bad("none such", () -> x.drop(16));
        x.interrupt(0);
        x.go(1);
        CHECK.same("those CALLS are over", x.drop(1) * 10 + x.drop(2), 13);
        CHECK.refused("this one is not", () -> x.drop(0));
        x.go(9);
        CHECK.same("it has ENDED", x.state(0) * 10 + x.drop(0), 92);
        TurnHall y = Halls.with(9, 8, 1, 0);
        Halls.program(y, 1, 11, 50, 0);
        y.begin(0, 0);
        y.begin(0, 0);
        y.schedule(0, 2);
        y.go(2);
        CHECK.refused("one has ENDED by a FAULT, one has not", () -> y.drop(0));
        CHECK.same("he has no CALL of this one", y.drop(1), 1);
        y.go(9);
        CHECK.same("both have", y.drop(0), 1);
    }

    private static void begin() {
        CHECK.sentence("A THREAD of PROGRAM p begins, with R[0]: its number. BAD; IllegalStateException: there were "
            + "64");
        TurnHall x = Halls.with(1, 0, 0, 0);
        for (int t = 0; t < 64; t++) {
            CHECK.same("its number", x.begin(t & 1, Long.MIN_VALUE + t), t);
        }
        CHECK.same("R[0] of the last", x.register(63, 0), Long.MIN_VALUE + 63);
        CHECK.same("R[1] of it", x.register(63, 1), 0);
        CHECK.refused("there were 64", () -> x.begin(0, 0));
        CHECK.refused("of an empty one, too", () -> x.begin(1, 0));
        CHECK.bad("BAD comes first", () -> x.begin(-1, 0));
        CHECK.bad("BAD comes first", () -> x.begin(16, 0));
        CHECK.same("go", x.go(99), 1);
        CHECK.refused("though all have ENDED", () -> x.begin(0, 0));
    }

    private static void schedule() {
        CHECK.sentence("THE SCHEDULE has one more: n (1 to 1000) STEPS of THREAD t: how many it has. BAD; "
            + "IllegalStateException: 256");
        TurnHall x = Halls.with(1, 5, 0, 0);
        CHECK.bad("no THREAD", () -> x.schedule(0, 1));
        x.begin(0, 0);
        x.begin(0, 0);
        for (int no : new int[] {LEAST, -1, 0, 1001, MOST}) {
            CHECK.bad(no + " STEPS", () -> x.schedule(0, no));
        }
        for (int no : new int[] {LEAST, -1, 2, 64, MOST}) {
            CHECK.bad("THREAD " + no, () -> x.schedule(no, 1));
        }
        CHECK.same("nothing is changed", x.count(5), 0);
        CHECK.same("1000 STEPS", x.schedule(1, 1000), 1);
        CHECK.same("1 STEP", x.schedule(0, 1), 2);
        CHECK.same("again", x.schedule(1, 1), 3);
        x.go(1000);
        CHECK.same("1000 are done", x.thread(0, 7) * 10000 + x.thread(1, 7), 1000);
        x.go(2);
        CHECK.same("and one each", x.thread(0, 7) * 10000 + x.thread(1, 7), 11001);
        for (int i = 0; i < 256; i++) {
            x.schedule(0, 1);
        }
        CHECK.refused("256", () -> x.schedule(0, 1));
        CHECK.bad("BAD comes first", () -> x.schedule(0, 0));
        CHECK.bad("BAD comes first", () -> x.schedule(2, 1));
        CHECK.same("nothing is changed", x.count(5), 256);
    }

    private static void goBounds() {
        CHECK.sentence("Up to n (1 to 20000) STEPS");
        TurnHall x = Halls.with(7, 5, 0, 0);
        x.begin(0, 0);
        for (int no : new int[] {LEAST, -1, 0, 20001, MOST}) {
            CHECK.bad("go(" + no + ")", () -> x.go(no));
        }
        CHECK.same("nothing is changed", x.count(3), 0);
        CHECK.same("1", x.go(1), 2);
        CHECK.same("one STEP", x.count(3), 1);
        CHECK.same("20000", x.go(20000), 2);
        CHECK.same("20000 more", x.count(3), 20001);
    }

    private static void goTellsInThisOrder() {
        CHECK.sentence("1 all THREADS have ENDED (or there are none), 2 n were done, 3 none is READY (looked at in "
            + "this order when no STEP more is to be done, 1 and 3 also before the first)");
        TurnHall x = Halls.with(9, 0, 0, 0);
        Halls.program(x, 2, 34, 0, 0);
        CHECK.same("there are none", x.go(1), 1);
        x.begin(1, 0);
        CHECK.same("all have ENDED, before the first STEP", x.go(1), 1);
        x.begin(0, 0);
        CHECK.same("n were done and all have ENDED", x.go(1), 1);
        x.begin(0, 0);
        CHECK.same("all have ENDED before n were done", x.go(2), 1);
        x.begin(2, 0);
        CHECK.same("n were done and none is READY", x.go(1), 2);
        CHECK.same("none is READY, before the first STEP", x.go(1), 3);
        x.begin(0, 0);
        CHECK.same("n were done, one is not READY", x.go(1), 2);
        x.begin(0, 0);
        CHECK.same("none is READY before n were done", x.go(2), 3);
        CHECK.same("STEPS ever", x.count(3), 5);
        x.interrupt(3);
        CHECK.same("the last one has ENDED", x.go(20000), 1);
    }

    private static void tickBounds() {
        CHECK.sentence("THE CLOCK goes on by n (1 to 1000000)");
        TurnHall x = new TurnHall(1);
        for (int no : new int[] {LEAST, -1, 0, 1000001, MOST}) {
            CHECK.bad("tick(" + no + ")", () -> x.tick(no));
        }
        CHECK.same("nothing is changed", x.count(7), 0);
        CHECK.same("1", x.tick(1), 0);
        CHECK.same("THE CLOCK", x.count(7), 1);
        CHECK.same("1000000", x.tick(1000000), 0);
        CHECK.same("THE CLOCK", x.count(7), 1000001);
    }

    private static void tickTellsWhoWasDue() {
        CHECK.sentence("how many were due (their own time was over; also one that has to wait for its MONITOR then)");
        TurnHall x = Halls.with(9, 14, 0, 0, 17, 0, 0);
        Halls.program(x, 1, 14, 0, 0, 34, 1, 0);
        Halls.program(x, 2, 20, 0, 0);
        Halls.program(x, 3, 1, 1, 3, 22, 1, 0);
        Halls.program(x, 4, 34, 0, 0);
        x.begin(0, 4);
        x.go(9);
        x.begin(1, 0);
        x.begin(2, 4);
        x.begin(3, 4);
        x.begin(4, 4);
        x.begin(4, 5);
        x.begin(4, 0);
        x.go(99);
        CHECK.same("states", Halls.states(x), "2 8 3 4 8 8 8");
        CHECK.same("four of the same time", x.tick(4), 4);
        CHECK.same("one has to wait for its MONITOR", Halls.states(x), "1 8 9 9 9 8 8");
        CHECK.same("the fifth", x.tick(1), 1);
        CHECK.same("no more", x.tick(1000000), 0);
        TurnHall y = Halls.with(1, 20, 0, 0);
        for (int t = 0; t < 64; t++) {
            y.begin(0, t);
        }
        y.go(64);
        CHECK.same("all 64", y.tick(63), 64);
        TurnHall z = Halls.with(9, 20, 0, 0);
        Halls.program(z, 1, 22, 1, 0);
        z.begin(0, 3);
        z.begin(1, 3);
        z.begin(1, 9);
        z.go(9);
        CHECK.same("who goes on by another one's end was not due by his own time", z.tick(3), 1);
        CHECK.same("all have ENDED", z.count(2), 3);
    }

    private static void cells() {
        CHECK.sentence("CELL i becomes v: what it was. BAD");
        TurnHall x = new TurnHall(1);
        for (int i : new int[] {0, 31}) {
            CHECK.same("0 at first", x.set(i, Long.MIN_VALUE), 0);
            CHECK.same("the least", x.set(i, Long.MAX_VALUE), Long.MIN_VALUE);
            CHECK.same("the most", x.cell(i), Long.MAX_VALUE);
        }
        CHECK.sentence("CELL i. BAD");
        for (int no : new int[] {LEAST, -1, 32, MOST}) {
            CHECK.bad("set(" + no + ")", () -> x.set(no, 1));
            CHECK.bad("cell(" + no + ")", () -> x.cell(no));
        }
        CHECK.same("one between", x.cell(15), 0);
    }

    private static void stateAndThread() {
        CHECK.sentence("The state of THREAD t: 0 READY, 1 to 8, 9 ENDED, 10 by a FAULT. BAD");
        TurnHall x = Halls.with(1, 0, 0, 0);
        CHECK.bad("no THREAD yet", () -> x.state(0));
        CHECK.bad("no THREAD yet", () -> x.thread(0, 0));
        CHECK.bad("no THREAD yet", () -> x.register(0, 0));
        x.begin(0, 0);
        CHECK.same("READY", x.state(0), 0);
        for (int no : new int[] {LEAST, -1, 1, 64, MOST}) {
            CHECK.bad("state of " + no, () -> x.state(no));
            CHECK.bad("thread of " + no, () -> x.thread(no, 0));
            CHECK.bad("register of " + no, () -> x.register(no, 0));
        }
        CHECK.sentence("0: CALLS (0 if it has ENDED), 1: the innermost one's PROGRAM (-1), 2: its PLACE (-1), 3: its "
            + "HANDLER (-1)");
        for (int no : new int[] {LEAST, -1, 8, MOST}) {
            CHECK.bad("what " + no, () -> x.thread(0, no));
        }
        for (int no : new int[] {LEAST, -1, 4, MOST}) {
            CHECK.bad("R[" + no + "]", () -> x.register(0, no));
        }
        CHECK.same("new", Halls.thread(x, 0), "1 0 0 -1 0 0 0 0");
        x.go(1);
        CHECK.same("ENDED", Halls.thread(x, 0), "0 -1 -1 -1 0 0 0 1");
        CHECK.same("state", x.state(0), 9);
        CHECK.sentence("4: its MARK (0, 1), 5: its PERMIT, 6: the FAULT that it ENDED by (0), 7: STEPS that it did. "
            + "BAD");
        TurnHall y = Halls.with(9, 35, 0, 0, 23, 0, 0, 11, 1000000, 0);
        y.begin(0, 0);
        y.go(2);
        CHECK.same("MARK and PERMIT", Halls.thread(y, 0), "1 0 2 -1 1 1 0 2");
        y.go(1);
        CHECK.same("they stay, and the FAULT", Halls.thread(y, 0), "0 -1 -1 -1 1 1 1000000 3");
        CHECK.same("state", y.state(0), 10);
    }

    private static void notes() {
        CHECK.sentence("The i-th of THE NOTES (from 0), the THREAD or (number) what was noted; -1 if there is none");
        TurnHall x = Halls.with(9, 12, 0, 0);
        for (int no : new int[] {LEAST, -1, 0, 1, 4095, 4096, MOST}) {
            CHECK.same("none: " + no, x.note(no, false) + x.note(no, true), -2);
        }
        x.begin(1, 0);
        x.begin(0, -1);
        x.begin(0, Long.MIN_VALUE);
        x.go(9);
        CHECK.same("THREADS", x.note(0, false) * 10 + x.note(1, false), 12);
        CHECK.same("a number that looks like none", x.note(0, true), -1);
        CHECK.same("the least", x.note(1, true), Long.MIN_VALUE);
        for (int no : new int[] {LEAST, -1, 2, 4095, 4096, MOST}) {
            CHECK.same("none: " + no, x.note(no, false) + x.note(no, true), -2);
        }
    }

    private static void counts() {
        CHECK.sentence("What 0: THREADS ever, 1: READY ones, 2: ENDED ones, 3: STEPS ever, 4: THE NOTES ever, 5: THE "
            + "SCHEDULE, 6: FAULTS ever, 7: THE CLOCK");
        TurnHall x = Halls.with(9, 12, 0, 0, 10, 3, 0, 11, 5, 0, 11, 6, 0);
        Halls.program(x, 1, 20, 0, 0);
        Halls.program(x, 2, 5, 0, 0);
        x.begin(0, 0);
        x.begin(1, 9);
        x.begin(2, 0);
        x.begin(3, 0);
        x.go(6);
        x.schedule(1, 1);
        x.schedule(2, 1);
        x.tick(4);
        StringBuilder told = new StringBuilder();
        for (int what = 0; what < 8; what++) {
            told.append(x.count(what)).append(' ');
        }
        CHECK.same("one READY, one asleep, one ENDED by a FAULT, one ENDED", told.toString(), "4 1 2 6 1 2 2 4 ");
        for (int no : new int[] {LEAST, -1, 8, MOST}) {
            CHECK.bad("what " + no, () -> x.count(no));
        }
    }

    /** 512 calls of a million do not come to 31 bits: what is behind them is not promised, and true all the same. */
    private static void clockBits() {
        CHECK.sentence("7: THE CLOCK (its lowest 31 bits)");
        TurnHall x = new TurnHall(1);
        for (int i = 0; i < 511; i++) {
            x.tick(1000000);
        }
        CHECK.same("the most that 512 calls can tell", x.count(7), 511000000);
        for (int i = 511; i < 2147; i++) {
            x.tick(1000000);
        }
        x.tick(483647);
        CHECK.same("the most of 31 bits", x.count(7), 2147483647);
        x.tick(1);
        CHECK.same("around", x.count(7), 0);
    }
}
