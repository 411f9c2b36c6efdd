/** STEPS 20 to 24, 34 and 35 at their edges; each check names the document's words. */
public final class ThreadEdgesTest {
    private static final Check CHECK = new Check("ThreadEdgesTest");
    private static final long LEAST = Long.MIN_VALUE;
    private static final long MOST = Long.MAX_VALUE;

    public static void main(String[] args) {
        sleeps();
        tillTheNextTick();
        starts();
        startsTooMany();
        joinsNoneSuch();
        joinsForTicks();
        joinsOneThatHasEnded();
        joinIsOver();
        interruptsNoneSuch();
        takesItsMark();
        parksForTicks();
        permitOrMark();
        unparks();
        CHECK.finish();
    }

    private static void sleeps() {
        CHECK.sentence("20 sleeps R[a] ticks (0: till the next tick; below 0: FAULT 3; may be interrupted; state 3)");
        CHECK.same("-1", Halls.faultOf(-1, 20, 0, 0), 3);
        CHECK.same("the least", Halls.faultOf(LEAST, 20, 0, 0), 3);
        TurnHall x = Halls.with(9, 20, 0, 0);
        x.tick(1000);
        x.begin(0, 1);
        x.begin(0, 2);
        x.begin(0, MOST);
        x.begin(0, MOST - 1000);
        x.begin(0, MOST - 999);
        x.go(9);
        CHECK.same("they sleep", Halls.states(x), "3 3 3 3 3");
        CHECK.same("1", x.tick(1), 1);
        CHECK.same("2", x.tick(1), 1);
        CHECK.same("the most is no time that has been", x.tick(1000000), 0);
        CHECK.same("they sleep on", Halls.states(x), "9 9 3 3 3");
    }

    private static void tillTheNextTick() {
        TurnHall x = Halls.with(9, 20, 0, 0, 12, 0, 0, 20, 0, 0, 12, 0, 0);
        x.begin(0, 0);
        CHECK.same("it waits", x.go(9), 3);
        CHECK.same("by the smallest tick", x.tick(1), 1);
        x.go(9);
        CHECK.same("it sleeps again", x.state(0), 3);
        CHECK.same("by the next one", x.tick(1000000), 1);
        CHECK.same("go", x.go(9), 1);
        CHECK.same("notes", Halls.notes(x), "0:0 0:0");
    }

    private static void starts() {
        CHECK.sentence("21 starts a THREAD of PROGRAM b (not 0 to 15: FAULT 3; FAULT 8), with copies of the "
            + "REGISTERS: R[a] becomes its number (in the new one, too)");
        for (long no : new long[] {-1, 16, 1L << 32, LEAST, MOST}) {
            CHECK.same("PROGRAM " + no, Halls.faultOf(0, 21, 0, no), 3);
        }
        for (int r = 0; r < 4; r++) {
            TurnHall x = Halls.with(9, 1, 1, 11, 1, 2, MOST, 1, 3, LEAST, 21, r, 15, 1, 1, 99);
            Halls.program(x, 15, 0, 0, 0);
            x.begin(1, 0);
            x.begin(0, 10);
            x.go(4);
            long[] due = {10, 11, MOST, LEAST};
            due[r] = 2;
            for (int i = 0; i < 4; i++) {
                CHECK.same("R[" + i + "], its number in R[" + r + "]", x.register(1, i), due[i]);
                CHECK.same("R[" + i + "] of the new one, its number in R[" + r + "]", x.register(2, i), due[i]);
            }
            CHECK.same("PROGRAM 15", Halls.thread(x, 2), "1 15 0 -1 0 0 0 0");
            x.go(1);
            CHECK.same("they are copies", x.register(2, 1), due[1]);
        }
    }

    private static void startsTooMany() {
        TurnHall x = Halls.with(9, 21, 0, 1, 0, 0, 0);
        for (int t = 0; t < 63; t++) {
            x.begin(1, 0);
        }
        x.begin(0, 77);
        x.go(1);
        CHECK.same("64 there were", x.thread(63, 6), 8);
        CHECK.same("R[a] stays", x.register(63, 0), 77);
        TurnHall y = Halls.with(9, 21, 0, 16);
        for (int t = 0; t < 64; t++) {
            y.begin(0, 0);
        }
        y.go(1);
        CHECK.same("FAULT 3 comes before FAULT 8", y.thread(0, 6), 3);
    }

    private static void joinsNoneSuch() {
        CHECK.sentence("22 joins THREAD R[a] for R[b] ticks (none such: FAULT 6; below 0: FAULT 3; 0: without end; "
            + "may be interrupted; state 4), if that has not ENDED");
        for (long no : new long[] {-1, 1, 63, 64, 1L << 32, LEAST, MOST}) {
            CHECK.same("THREAD " + no, Halls.faultOf(no, 22, 0, 1), 6);
            CHECK.same("FAULT 6 comes before FAULT 3", Halls.faultOf(no, 1, 1, -1, 22, 0, 1), 6);
        }
        for (long below : new long[] {-1, LEAST}) {
            CHECK.same(below + " ticks", Halls.faultOf(0, 1, 1, below, 22, 0, 1), 3);
        }
        TurnHall x = Halls.with(9, 22, 0, 1);
        for (int t = 0; t < 63; t++) {
            x.begin(0, 63);
        }
        x.go(63);
        CHECK.same("63 is none yet", x.count(6), 63);
        x.begin(0, 63);
        x.go(1);
        CHECK.same("63 is one now", x.state(63), 4);
    }

    private static void joinsForTicks() {
        TurnHall x = Halls.with(9, 1, 0, 0, 22, 0, 1);
        Halls.program(x, 1, 1, 1, 1, 22, 0, 1);
        Halls.program(x, 2, 1, 1, MOST, 22, 0, 1);
        x.tick(5);
        Halls.run(x, 0, 0, 1, 2);
        CHECK.same("they join, the first itself", Halls.states(x), "4 4 4 4");
        CHECK.same("1 tick", x.tick(1), 1);
        CHECK.same("by time it goes on, without FAULT", x.state(2), 9);
        CHECK.same("0 and the most: without end", x.tick(1000000), 0);
        CHECK.same("they join on", Halls.states(x), "4 4 9 4");
    }

    private static void joinsOneThatHasEnded() {
        TurnHall x = Halls.with(9, 22, 0, 1, 12, 0, 0);
        Halls.program(x, 2, 11, 50, 0);
        Halls.run(x, 1, 2);
        x.begin(0, 0);
        x.begin(0, 1);
        CHECK.same("neither waits", x.go(4), 1);
        CHECK.same("they go on", Halls.notes(x), "2:0 3:1");
        CHECK.same("below 0 is looked at still", endedAnd(1, 1, -1, 22, 0, 1), "3 1");
        CHECK.same("and so is the MARK", endedAnd(22, 0, 1), "2 0");
    }

    /** The FAULT and the MARK of one that has its MARK, where THREAD 0 has ENDED. */
    private static String endedAnd(long... steps) {
        TurnHall x = Halls.with(9, steps);
        x.begin(1, 0);
        x.begin(0, 0);
        x.interrupt(1);
        x.go(9);
        return x.thread(1, 6) + " " + x.thread(1, 4);
    }

    private static void joinIsOver() {
        TurnHall x = Halls.with(9, 34, 1, 0);
        Halls.program(x, 1, 22, 1, 1);
        Halls.program(x, 2, 1, 0, 1, 22, 0, 1, 12, 0, 0);
        Halls.run(x, 0, 1, 1, 2);
        CHECK.same("a chain", Halls.states(x), "8 4 4 4");
        x.interrupt(0);
        CHECK.same("who joined one that has ENDED goes on, and so on", Halls.states(x), "9 9 9 0");
        TurnHall y = Halls.with(9, 20, 0, 0);
        Halls.program(y, 1, 22, 1, 1);
        y.begin(0, 5);
        y.begin(1, 0);
        y.go(9);
        CHECK.same("ENDED by a FAULT", y.interrupt(0), 10);
        CHECK.same("who joined it has none", Halls.states(y), "10 9");
        for (int way = 0; way < 2; way++) {
            TurnHall z = Halls.with(1, 34, 1, 0);
            Halls.program(z, 1, 22, 0, 1);
            for (int t = 0; t < 64; t++) {
                z.begin(t == (way == 0 ? 63 : 0) ? 0 : 1, way == 0 ? t + 1 : t - 1);
            }
            z.go(99);
            CHECK.same("a chain of all 64", z.count(1) + z.count(2), 0);
            z.interrupt(way == 0 ? 63 : 0);
            CHECK.same("all have ENDED", z.count(2), 64);
        }
    }

    private static void interruptsNoneSuch() {
        CHECK.sentence("23 interrupts THREAD R[a] (FAULT 6)");
        for (long no : new long[] {-1, 1, 63, 64, 1L << 32, LEAST, MOST}) {
            CHECK.same("THREAD " + no, Halls.faultOf(no, 23, 0, 0), 6);
        }
        TurnHall x = Halls.with(9, 23, 0, 0, 0, 0, 0);
        x.begin(1, 0);
        x.begin(0, 0);
        x.begin(0, 2);
        x.go(2);
        CHECK.same("one that has ENDED: nothing", Halls.thread(x, 0), "0 -1 -1 -1 0 0 0 0");
        x.go(1);
        CHECK.same("itself", x.thread(2, 4), 1);
    }

    private static void takesItsMark() {
        CHECK.sentence("24: R[a] becomes 1 if it has its MARK, which goes; else 0");
        TurnHall x = Halls.with(9, 24, 0, 0, 24, 3, 0, 0, 0, 0);
        x.begin(0, 7);
        x.interrupt(0);
        x.interrupt(0);
        x.go(1);
        CHECK.same("it has it", x.register(0, 0), 1);
        CHECK.same("it goes", x.thread(0, 4), 0);
        x.go(1);
        CHECK.same("two interruptions are one MARK", x.register(0, 3), 0);
    }

    private static void parksForTicks() {
        CHECK.sentence("34 parks for R[a] ticks (below 0: FAULT 3; 0: without end)");
        for (long below : new long[] {-1, LEAST}) {
            CHECK.same(below + " ticks", Halls.faultOf(below, 34, 0, 0), 3);
            CHECK.same("with its PERMIT, too", Halls.faultOf(0, 35, 0, 0, 1, 0, below, 34, 0, 0), 3);
        }
        TurnHall x = Halls.with(9, 34, 0, 0, 24, 1, 0);
        x.tick(5);
        x.begin(0, 0);
        x.begin(0, 1);
        x.begin(0, MOST);
        x.go(9);
        CHECK.same("they are parked", Halls.states(x), "8 8 8");
        CHECK.same("1 tick", x.tick(1), 1);
        CHECK.same("it goes on, without PERMIT, MARK and FAULT", Halls.thread(x, 1), "1 0 1 -1 0 0 0 1");
        CHECK.same("0 and the most: without end", x.tick(1000000), 0);
        CHECK.same("they are parked on", Halls.states(x), "8 0 8");
    }

    private static void permitOrMark() {
        CHECK.sentence("with its PERMIT (which goes) or MARK (which stays) it goes on; else it waits (state 8)");
        TurnHall x = Halls.with(9, 35, 0, 0, 35, 0, 0, 34, 0, 0, 34, 0, 0);
        x.begin(0, 0);
        x.go(2);
        CHECK.same("two unparks", x.thread(0, 5), 1);
        x.go(1);
        CHECK.same("are one PERMIT, which goes", x.state(0) * 10 + x.thread(0, 5), 0);
        x.go(1);
        CHECK.same("then it waits", x.state(0), 8);
        TurnHall y = Halls.with(9, 34, 0, 0, 34, 0, 0, 24, 1, 0, 34, 0, 0);
        y.begin(0, 0);
        y.interrupt(0);
        y.go(2);
        CHECK.same("the MARK stays", y.state(0) * 10 + y.thread(0, 4), 1);
        y.go(2);
        CHECK.same("till it goes", y.state(0), 8);
        TurnHall z = Halls.with(9, 35, 0, 0, 34, 0, 0, 0, 0, 0);
        z.begin(0, 0);
        z.interrupt(0);
        z.go(2);
        CHECK.same("both: the PERMIT goes, the MARK stays", z.thread(0, 5) * 10 + z.thread(0, 4), 1);
    }

    private static void unparks() {
        CHECK.sentence("35 unparks THREAD R[a] (FAULT 6): one that is parked goes on, another one (that has not "
            + "ENDED) has its PERMIT");
        for (long no : new long[] {-1, 1, 63, 64, 1L << 32, LEAST, MOST}) {
            CHECK.same("THREAD " + no, Halls.faultOf(no, 35, 0, 0), 6);
        }
        TurnHall x = Halls.with(9, 34, 0, 0, 0, 0, 0);
        Halls.program(x, 1, 35, 0, 0);
        Halls.program(x, 2, 20, 0, 0);
        x.begin(0, 0);
        x.begin(2, 9);
        x.begin(3, 0);
        x.begin(0, 5);
        x.go(9);
        for (int t = 0; t < 4; t++) {
            int started = x.begin(1, t);
            x.schedule(started, 1);
            x.go(1);
        }
        CHECK.same("a parked one goes on without PERMIT", x.state(0) * 10 + x.thread(0, 5), 0);
        CHECK.same("one that sleeps has it, and sleeps on", x.state(1) * 10 + x.thread(1, 5), 31);
        CHECK.same("one that has ENDED has none", x.state(2) * 10 + x.thread(2, 5), 90);
        CHECK.same("one that was parked for a time goes on", x.state(3) * 10 + x.thread(3, 5), 0);
        CHECK.same("that time is nobody's: only the sleeper is due", x.tick(9), 1);
    }
}
