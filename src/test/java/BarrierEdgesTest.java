/** STEPS 32 and 33 and promises 10 and 19 at their edges; each check names the document's words. */
public final class BarrierEdgesTest {
    private static final Check CHECK = new Check("BarrierEdgesTest");
    private static final long MOST = Long.MAX_VALUE;

    public static void main(String[] args) {
        ticks();
        withoutEnd();
        broken();
        withItsMark();
        lastOfItsParties();
        onePartyAnd64();
        behindIt();
        byTime();
        interruptedThere();
        breaksAndIsWhole();
        parties();
        oneWaitsThere();
        barrierTells();
        CHECK.finish();
    }

    /** PROGRAM 0 comes for R[0] ticks, 1 mends; BARRIER 0 has so many PARTIES. */
    private static TurnHall hall(int parties) {
        TurnHall x = Halls.with(99, 32, 0, 0);
        Halls.program(x, 1, 33, 0, 0);
        x.parties(0, parties);
        return x;
    }

    private static void come(TurnHall x, long... ticks) {
        for (long r : ticks) {
            x.begin(0, r);
        }
        x.go(99);
    }

    private static void ticks() {
        CHECK.sentence("32 comes to BARRIER a for R[b] ticks (below 0: FAULT 3; 0: without end)");
        for (long below : new long[] {-1, Long.MIN_VALUE}) {
            TurnHall x = hall(2);
            come(x, 0, below);
            CHECK.same(below + " ticks", Halls.faults(x), "0 3");
            CHECK.same("it did not come, nor break it", Halls.barrier(x, 0), "2 1 0 0");
            x.interrupt(0);
            come(x, below);
            CHECK.same("FAULT 3 comes before FAULT 4", x.thread(2, 6), 3);
        }
    }

    private static void withoutEnd() {
        TurnHall x = hall(5);
        x.tick(7);
        come(x, 0, MOST, MOST - 7);
        CHECK.same("0 and the most: without end", x.tick(1000000), 0);
        CHECK.same("they wait", Halls.states(x), "7 7 7");
        come(x, 1);
        CHECK.same("one tick", x.tick(1), 1);
        CHECK.same("broken by that one", Halls.faults(x), "4 4 4 7");
    }

    private static void broken() {
        CHECK.sentence("broken: FAULT 4");
        TurnHall x = hall(2);
        come(x, 0);
        x.interrupt(0);
        CHECK.same("broken", Halls.barrier(x, 0), "2 0 1 0");
        come(x, 0, 5);
        CHECK.same("FAULTS", Halls.faults(x), "2 4 4");
        CHECK.same("R[0] stays", x.register(2, 0), 5);
        x.begin(0, 0);
        x.interrupt(3);
        x.go(9);
        CHECK.same("FAULT 4 comes before FAULT 2, the MARK stays", x.thread(3, 6) * 10 + x.thread(3, 4), 41);
        x.parties(0, 1);
        come(x, 0);
        CHECK.same("also for the last of its PARTIES", x.thread(4, 6), 4);
        CHECK.same("nobody waits there", Halls.barrier(x, 0), "1 0 1 0");
    }

    private static void withItsMark() {
        CHECK.sentence("with its MARK: the MARK goes, the BARRIER breaks, FAULT 2");
        TurnHall x = hall(3);
        come(x, 0, 9);
        x.begin(0, 0);
        x.interrupt(2);
        x.go(9);
        CHECK.same("FAULTS", Halls.faults(x), "4 4 2");
        CHECK.same("the MARK goes", x.thread(2, 4), 0);
        CHECK.same("broken", Halls.barrier(x, 0), "3 0 1 0");
        CHECK.same("nothing is due", x.tick(9), 0);
        TurnHall y = hall(1);
        y.begin(0, 0);
        y.interrupt(0);
        y.go(9);
        CHECK.same("also the last of its PARTIES", Halls.faults(y) + " " + Halls.barrier(y, 0), "2 1 0 1 0");
    }

    private static void lastOfItsParties() {
        CHECK.sentence("the last of its PARTIES: all that are there go on, in order, it too, R[0] of each being how "
            + "many came behind it; else it waits (state 7)");
        TurnHall x = hall(3);
        come(x, 0, 1);
        CHECK.same("one is missing", Halls.barrier(x, 0), "3 2 0 0");
        CHECK.same("states", Halls.states(x), "7 7");
        come(x, 1);
        CHECK.same("all went on", Halls.barrier(x, 0), "3 0 0 1");
        CHECK.same("behind their last STEP they have ENDED", Halls.states(x), "9 9 9");
        CHECK.same("no time is over any more", x.tick(1000000), 0);
        come(x, 0, 0);
        CHECK.same("it takes three again", Halls.barrier(x, 0), "3 2 0 1");
        TurnHall y = Halls.with(99, 32, 0, 0, 12, 0, 0);
        y.parties(0, 2);
        y.begin(0, 0);
        y.begin(0, 0);
        y.go(3);
        CHECK.same("the last one's turn goes on", Halls.notes(y), "1:0");
    }

    private static void onePartyAnd64() {
        TurnHall x = hall(1);
        come(x, 7, 0, 0);
        CHECK.same("one PARTY never waits", Halls.states(x), "9 9 9");
        CHECK.same("each time all went on", Halls.barrier(x, 0), "1 0 0 3");
        CHECK.same("nobody came behind it", x.register(0, 0), 0);
        TurnHall y = Halls.with(1, 32, 0, 1);
        y.parties(0, 64);
        for (int t = 0; t < 64; t++) {
            y.begin(0, 0);
        }
        y.go(63);
        CHECK.same("63 wait", Halls.barrier(y, 0), "64 63 0 0");
        CHECK.same("the 64th", y.go(1), 1);
        CHECK.same("all went on", Halls.barrier(y, 0), "64 0 0 1");
    }

    private static void behindIt() {
        CHECK.sentence("R[0] of each being how many came behind it");
        TurnHall x = Halls.with(9, 32, 0, 1);
        x.parties(0, 4);
        for (int t = 0; t < 4; t++) {
            x.begin(0, 99);
        }
        x.schedule(2, 1);
        x.schedule(0, 1);
        x.go(9);
        CHECK.same("by the order in which they came", x.register(2, 0) * 1000 + x.register(0, 0) * 100
            + x.register(1, 0) * 10 + x.register(3, 0), 3210);
    }

    private static void byTime() {
        CHECK.sentence("By time: it breaks, the one whose time is over has FAULT 7 (ahead of the others)");
        TurnHall x = hall(4);
        come(x, 5, 0, 5);
        CHECK.same("not yet", x.tick(4), 0);
        CHECK.same("one was due by its own time", x.tick(1), 1);
        CHECK.same("FAULTS", Halls.faults(x), "7 4 4");
        CHECK.same("broken", Halls.barrier(x, 0), "4 0 1 0");
        CHECK.same("FAULTS ever", x.count(6), 3);
        TurnHall y = hall(4);
        Halls.program(y, 2, 10, 2, 0, 32, 0, 0, 34, 1, 0);
        y.begin(2, 3);
        y.begin(2, 0);
        y.go(9);
        y.tick(3);
        CHECK.same("caught: REGISTER 3", y.register(0, 3) * 10 + y.register(1, 3), 74);
        CHECK.same("they go on at their HANDLERS, no STEP", Halls.thread(y, 1), "1 2 2 -1 0 0 0 2");
    }

    private static void interruptedThere() {
        CHECK.sentence("and so with FAULT 2 one that is interrupted there");
        TurnHall x = hall(4);
        come(x, 0, 0, 0);
        CHECK.same("its state then", x.interrupt(1), 10);
        CHECK.same("FAULTS", Halls.faults(x), "4 2 4");
        CHECK.same("no MARK", x.thread(1, 4), 0);
        CHECK.same("broken", Halls.barrier(x, 0), "4 0 1 0");
    }

    private static void breaksAndIsWhole() {
        CHECK.sentence("A BARRIER breaks: those that wait there have FAULT 4, in order");
        TurnHall all = Halls.with(99, 32, 0, 1);
        Halls.program(all, 1, 33, 0, 0);
        all.parties(0, 64);
        for (int t = 0; t < 63; t++) {
            all.begin(0, 0);
        }
        all.go(99);
        Halls.run(all, 1);
        CHECK.same("63 of them", all.count(6), 63);
        CHECK.same("the first and the last", all.thread(0, 6) * 10 + all.thread(62, 6), 44);
        CHECK.sentence("33: BARRIER a breaks (those that wait there have FAULT 4), and is whole again");
        TurnHall x = hall(3);
        come(x, 0, 5);
        Halls.run(x, 1);
        CHECK.same("FAULTS", Halls.faults(x), "4 4 0");
        CHECK.same("whole", Halls.barrier(x, 0), "3 0 0 0");
        CHECK.same("nothing is due", x.tick(5), 0);
        come(x, 0);
        x.interrupt(3);
        CHECK.same("broken", Halls.barrier(x, 0), "3 0 1 0");
        Halls.run(x, 1);
        CHECK.same("whole again", Halls.barrier(x, 0), "3 0 0 0");
        come(x, 0, 0, 0);
        CHECK.same("all go on", Halls.barrier(x, 0), "3 0 0 1");
        Halls.run(x, 1);
        CHECK.same("with nobody there", Halls.barrier(x, 0), "3 0 0 1");
        x.begin(1, 0);
        x.interrupt(9);
        x.go(9);
        CHECK.same("it may not be interrupted", x.thread(9, 6) * 10 + x.thread(9, 4), 1);
    }

    private static void parties() {
        CHECK.sentence("BARRIER y has n (1 to 64) PARTIES from now on: 0");
        TurnHall x = new TurnHall(1);
        CHECK.same("1", x.parties(0, 1), 0);
        CHECK.same("64", x.parties(7, 64), 0);
        for (int no : new int[] {-1, 0, 65, Integer.MIN_VALUE, Integer.MAX_VALUE}) {
            CHECK.bad(no + " PARTIES", () -> x.parties(7, no));
        }
        for (int no : new int[] {-1, 8, Integer.MIN_VALUE, Integer.MAX_VALUE}) {
            CHECK.bad("BARRIER " + no, () -> x.parties(no, 1));
        }
        CHECK.same("nothing is changed", x.barrier(7, 0) * 10 + x.barrier(0, 0), 641);
    }

    private static void oneWaitsThere() {
        CHECK.sentence("IllegalStateException: one waits there");
        TurnHall x = hall(2);
        come(x, 0);
        CHECK.refused("other PARTIES", () -> x.parties(0, 3));
        CHECK.refused("as many", () -> x.parties(0, 2));
        CHECK.bad("what is BAD comes first", () -> x.parties(0, 65));
        CHECK.same("nothing is changed", Halls.barrier(x, 0), "2 1 0 0");
        CHECK.same("another BARRIER", x.parties(1, 3), 0);
        come(x, 0);
        CHECK.same("nobody waits any more", x.parties(0, 3), 0);
        come(x, 0);
        x.interrupt(2);
        CHECK.same("nor at a broken one", x.parties(0, 4), 0);
        CHECK.same("which stays broken", Halls.barrier(x, 0), "4 0 1 1");
    }

    private static void barrierTells() {
        CHECK.sentence("Of BARRIER y, what 0: PARTIES, 1: those that wait, 2: 1 if it is broken, else 0, 3: how "
            + "often all went on");
        TurnHall x = Halls.with(1000, 32, 7, 1, 5, 0, 0);
        for (int y = 0; y < 8; y++) {
            CHECK.same("a new one has one PARTY", Halls.barrier(x, y), "1 0 0 0");
        }
        x.begin(0, 0);
        x.go(20000);
        CHECK.same("often", Halls.barrier(x, 7), "1 0 0 10000");
        for (int no : new int[] {-1, 8, Integer.MIN_VALUE, Integer.MAX_VALUE}) {
            CHECK.bad("BARRIER " + no, () -> x.barrier(no, 0));
        }
        for (int no : new int[] {-1, 4, Integer.MIN_VALUE, Integer.MAX_VALUE}) {
            CHECK.bad("what " + no, () -> x.barrier(0, no));
        }
    }
}
