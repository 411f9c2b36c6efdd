/** STEPS 29 to 31 and promises 9 and 18 at their edges; each check names the document's words. */
public final class SemaphoreEdgesTest {
    private static final Check CHECK = new Check("SemaphoreEdgesTest");
    private static final long LEAST = Long.MIN_VALUE;
    private static final long MOST = Long.MAX_VALUE;

    public static void main(String[] args) {
        takesBelow0();
        soMany();
        nobodyWaits();
        mayBeInterrupted();
        givesBelow0();
        moreAreLost();
        lostBeforeTheyAreHad();
        asLongAsThereAreSoMany();
        whenOneIsInterrupted();
        tries();
        triesAhead();
        supplies();
        isTold();
        CHECK.finish();
    }

    /** PROGRAM 0 takes R[0] and notes it, 1 gives R[0], 2 tries for R[0] and then notes that. */
    private static TurnHall hall() {
        TurnHall x = Halls.with(99, 29, 0, 0, 12, 0, 0);
        Halls.program(x, 1, 30, 0, 0);
        Halls.program(x, 2, 31, 0, 0, 12, 0, 0);
        return x;
    }

    private static void run(TurnHall x, int p, long r) {
        x.begin(p, r);
        x.go(99);
    }

    private static void takesBelow0() {
        CHECK.sentence("29 takes R[b] of SEMAPHORE a (below 0: FAULT 3; may be interrupted)");
        for (long below : new long[] {-1, LEAST}) {
            TurnHall x = hall();
            x.supply(0, 5);
            run(x, 0, below);
            CHECK.same(below + " of them", x.thread(0, 6), 3);
            CHECK.same("it has what it had", Halls.semaphore(x, 0), "5 0");
        }
    }

    private static void soMany() {
        CHECK.sentence("if there are so many and nobody waits; else it waits (state 6)");
        TurnHall x = hall();
        x.supply(0, 5);
        run(x, 0, 5);
        CHECK.same("just so many", Halls.semaphore(x, 0), "0 0");
        run(x, 0, 0);
        CHECK.same("0 of none", x.state(1), 9);
        run(x, 0, 1);
        CHECK.same("1 of none", x.state(2), 6);
        TurnHall y = hall();
        y.supply(0, 5);
        run(y, 0, 6);
        CHECK.same("one too many", Halls.semaphore(y, 0), "5 1");
        CHECK.same("state", y.state(0), 6);
        TurnHall z = hall();
        run(z, 1, MOST);
        run(z, 0, MOST);
        CHECK.same("the most", Halls.states(z) + " " + Halls.semaphore(z, 0), "9 9 0 0");
    }

    private static void nobodyWaits() {
        TurnHall x = hall();
        x.supply(0, 5);
        run(x, 0, 6);
        run(x, 0, 1);
        run(x, 0, 0);
        CHECK.same("there are so many, but one waits", Halls.states(x), "6 6 6");
        CHECK.same("nothing is taken", Halls.semaphore(x, 0), "5 3");
        x.supply(0, 1);
        CHECK.same("the first has its six, then 1 of none is too many", Halls.semaphore(x, 0), "0 2");
        x.supply(0, 1);
        CHECK.same("all have theirs, 0 of none, too", Halls.semaphore(x, 0), "0 0");
        x.go(99);
        CHECK.same("notes", Halls.notes(x), "0:6 1:1 2:0");
    }

    private static void mayBeInterrupted() {
        TurnHall x = hall();
        x.supply(0, 5);
        x.begin(0, 1);
        x.interrupt(0);
        x.go(9);
        CHECK.same("with its MARK, though there are so many", x.thread(0, 6) * 10 + x.thread(0, 4), 20);
        CHECK.same("it has what it had", Halls.semaphore(x, 0), "5 0");
    }

    private static void givesBelow0() {
        CHECK.sentence("30 gives R[b] (below 0: FAULT 3; more than 9223372036854775807 in all are lost)");
        for (long below : new long[] {-1, LEAST}) {
            TurnHall x = hall();
            x.supply(0, 5);
            run(x, 1, below);
            CHECK.same(below + " of them", x.thread(0, 6), 3);
            CHECK.same("it has what it had", Halls.semaphore(x, 0), "5 0");
        }
        TurnHall y = hall();
        run(y, 1, 0);
        CHECK.same("0", y.supply(0, 0), 0);
        CHECK.same("no FAULT", y.state(0), 9);
        y.begin(1, 4);
        y.interrupt(1);
        y.go(9);
        CHECK.same("it may not be interrupted", y.supply(0, 0) * 10 + y.thread(1, 4), 41);
    }

    private static void moreAreLost() {
        TurnHall x = hall();
        run(x, 1, MOST - 1);
        CHECK.same("the most but one", x.supply(0, 0), MOST - 1);
        run(x, 1, 1);
        CHECK.same("the most", x.supply(0, 0), MOST);
        run(x, 1, 1);
        CHECK.same("one more is lost", x.supply(0, 0), MOST);
        run(x, 1, MOST);
        CHECK.same("all are lost", x.supply(0, 0), MOST);
        CHECK.same("by supply, too", x.supply(0, 1000000), MOST);
        run(x, 0, MOST);
        CHECK.same("none were kept besides", x.supply(0, 0), 0);
        TurnHall y = hall();
        y.supply(0, 7);
        run(y, 1, MOST - 6);
        CHECK.same("one of many is lost", y.supply(0, 0), MOST);
    }

    private static void lostBeforeTheyAreHad() {
        TurnHall x = hall();
        run(x, 1, MOST - 1);
        run(x, 0, MOST);
        CHECK.same("the most is too many", x.state(1), 6);
        CHECK.same("of ten nine are lost, the most is had", x.supply(0, 10), 0);
        CHECK.same("it goes on", x.state(1), 0);
    }

    private static void asLongAsThereAreSoMany() {
        CHECK.sentence("those that wait have theirs from the front on, as long as there are so many");
        TurnHall x = hall();
        run(x, 0, 2);
        run(x, 0, 3);
        run(x, 0, 1);
        CHECK.same("three wait", Halls.semaphore(x, 0), "0 3");
        CHECK.same("two for the first", x.supply(0, 2), 0);
        CHECK.same("states", Halls.states(x), "0 6 6");
        CHECK.same("too few for the second, who stands ahead of the third", x.supply(0, 2), 2);
        CHECK.same("states", Halls.states(x), "0 6 6");
        run(x, 1, 1);
        CHECK.same("three for the second", Halls.semaphore(x, 0), "0 1");
        CHECK.same("one is left over", x.supply(0, 2), 1);
        TurnHall y = hall();
        for (int t = 0; t < 63; t++) {
            y.begin(0, 1);
        }
        y.go(99);
        CHECK.same("63 wait", Halls.semaphore(y, 0), "0 63");
        run(y, 1, 63);
        CHECK.same("all have theirs", Halls.semaphore(y, 0), "0 0");
        TurnHall z = hall();
        for (int t = 0; t < 64; t++) {
            z.begin(0, 1);
        }
        z.go(99);
        CHECK.same("64 wait", Halls.semaphore(z, 0), "0 64");
        CHECK.same("by supply, too", z.supply(0, 65), 1);
        CHECK.same("all have theirs", Halls.semaphore(z, 0), "1 0");
    }

    private static void whenOneIsInterrupted() {
        CHECK.sentence("(also when one that waits is interrupted)");
        TurnHall x = hall();
        x.supply(0, 4);
        run(x, 0, 5);
        run(x, 0, 3);
        run(x, 0, 2);
        run(x, 0, 1);
        CHECK.same("four wait", Halls.semaphore(x, 0), "4 4");
        CHECK.same("the third", x.interrupt(2), 10);
        CHECK.same("nobody has his by that", Halls.semaphore(x, 0), "4 3");
        CHECK.same("the first", x.interrupt(0), 10);
        CHECK.same("the others have theirs", Halls.semaphore(x, 0), "0 0");
        CHECK.same("states", Halls.states(x), "10 0 10 0");
        TurnHall y = hall();
        Halls.program(y, 3, 23, 1, 0);
        y.supply(0, 1);
        run(y, 0, 2);
        run(y, 0, 1);
        run(y, 3, 0);
        CHECK.same("by STEP 23, too", Halls.semaphore(y, 0), "0 0");
        CHECK.same("states", Halls.states(y), "10 9 9");
    }

    private static void tries() {
        CHECK.sentence("31 try: as 29, never waiting: R[b] becomes 1 if it had them (also ahead of those that wait), "
            + "else 0");
        for (long below : new long[] {-1, LEAST}) {
            TurnHall x = hall();
            run(x, 2, below);
            CHECK.same(below + " of them", x.thread(0, 6), 3);
            CHECK.same("R[b] stays", x.register(0, 0), below);
        }
        TurnHall y = hall();
        y.supply(0, 5);
        run(y, 2, 6);
        CHECK.same("one too many", Halls.semaphore(y, 0), "5 0");
        run(y, 2, 5);
        CHECK.same("just so many", Halls.semaphore(y, 0), "0 0");
        run(y, 2, 1);
        run(y, 2, 0);
        CHECK.same("had or not; 0 of none are had", Halls.notes(y), "0:0 1:1 2:0 3:1");
        run(y, 1, MOST);
        run(y, 2, MOST);
        CHECK.same("the most", y.register(5, 0), 1);
        CHECK.same("none is left", Halls.semaphore(y, 0), "0 0");
    }

    private static void triesAhead() {
        TurnHall x = hall();
        x.supply(0, 5);
        run(x, 0, 6);
        run(x, 2, 5);
        CHECK.same("ahead of one that waits", x.register(1, 0), 1);
        CHECK.same("who waits on", Halls.semaphore(x, 0), "0 1");
        run(x, 2, 1);
        CHECK.same("none are left", x.register(2, 0), 0);
        run(x, 2, 0);
        CHECK.same("0 are", x.register(3, 0), 1);
        CHECK.same("one waits", Halls.semaphore(x, 0), "0 1");
    }

    private static void supplies() {
        CHECK.sentence("SEMAPHORE s gets n (0 to 1000000) more, as by 30: what it has then");
        TurnHall x = hall();
        CHECK.same("0", x.supply(7, 0), 0);
        CHECK.same("1000000", x.supply(7, 1000000), 1000000);
        for (int no : new int[] {-1, 1000001, Integer.MIN_VALUE, Integer.MAX_VALUE}) {
            CHECK.bad(no + " more", () -> x.supply(7, no));
        }
        for (int no : new int[] {-1, 8, Integer.MIN_VALUE, Integer.MAX_VALUE}) {
            CHECK.bad("SEMAPHORE " + no, () -> x.supply(no, 1));
        }
        CHECK.same("nothing is changed", x.supply(7, 0), 1000000);
        run(x, 0, 3);
        CHECK.same("what it has when one has had its three", x.supply(0, 5), 2);
        Halls.program(x, 3, 29, 1, 0);
        Halls.program(x, 4, 1, 1, 1, 22, 1, 2, 0, 0, 0);
        run(x, 3, 1);
        run(x, 4, 0);
        CHECK.same("one waits by its last STEP, another one for its end", Halls.states(x), "9 6 4");
        CHECK.same("what it has when it has had its one", x.supply(1, 1), 0);
        CHECK.same("it has ENDED at once, the other one goes on", Halls.states(x), "9 9 0");
        for (int i = 0; i < 300; i++) {
            x.supply(6, 1000000);
        }
        CHECK.same("300 million", x.supply(6, 0), 300000000);
    }

    private static void isTold() {
        CHECK.sentence("Of SEMAPHORE s, what 0: what it has (at most 2147483647 is told), 1: those that wait");
        long[][] told = {{2147483646, 2147483646}, {2147483647, 2147483647}, {2147483648L, 2147483647},
            {4294967296L, 2147483647}, {4294967297L, 2147483647}, {MOST, 2147483647}};
        for (long[] has : told) {
            TurnHall x = hall();
            run(x, 1, has[0]);
            CHECK.same("of " + has[0], x.semaphore(0, 0), has[1]);
            CHECK.same("supply tells all", x.supply(0, 0), has[0]);
            CHECK.same("nobody waits", x.semaphore(0, 1), 0);
        }
        TurnHall y = new TurnHall(1);
        for (int s = 0; s < 8; s++) {
            CHECK.same("a new one", Halls.semaphore(y, s), "0 0");
        }
        for (int no : new int[] {-1, 8, Integer.MIN_VALUE, Integer.MAX_VALUE}) {
            CHECK.bad("SEMAPHORE " + no, () -> y.semaphore(no, 0));
        }
        for (int no : new int[] {-1, 2, Integer.MIN_VALUE, Integer.MAX_VALUE}) {
            CHECK.bad("what " + no, () -> y.semaphore(0, no));
        }
    }
}
