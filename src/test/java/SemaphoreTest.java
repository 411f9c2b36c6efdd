/** Promises 9 and 18: supply and semaphore, and STEPS 29 to 31. */
public final class SemaphoreTest {
    private static final Check CHECK = new Check("SemaphoreTest");

    public static void main(String[] args) {
        ranges();
        takesAndGives();
        fromTheFrontOn();
        lastStepIsOver();
        tries();
        great();
        CHECK.finish();
    }

    private static void ranges() {
        TurnHall x = new TurnHall(1);
        CHECK.bad("supply(-1)", () -> x.supply(-1, 0));
        CHECK.bad("supply(8)", () -> x.supply(8, 0));
        CHECK.bad("-1 more", () -> x.supply(0, -1));
        CHECK.bad("1000001 more", () -> x.supply(0, 1000001));
        CHECK.bad("semaphore(-1)", () -> x.semaphore(-1, 0));
        CHECK.bad("semaphore(8)", () -> x.semaphore(8, 0));
        CHECK.bad("what -1", () -> x.semaphore(0, -1));
        CHECK.bad("what 2", () -> x.semaphore(0, 2));
        CHECK.same("0 more", x.supply(0, 0), 0);
        CHECK.same("1000000 more", x.supply(7, 1000000), 1000000);
        CHECK.same("1 more", x.supply(7, 1), 1000001);
        CHECK.same("semaphore", x.semaphore(7, 0), 1000001);
        CHECK.same("another", x.semaphore(0, 0), 0);
        for (int op = 29; op <= 31; op++) {
            CHECK.same("below 0: " + op, Halls.faultOf(-1, op, 0, 0), 3);
            CHECK.same("0: " + op, Halls.faultOf(0, op, 0, 0), 0);
        }
    }

    private static void takesAndGives() {
        TurnHall x = new TurnHall(100);
        Halls.program(x, 0, 29, 1, 0, 12, 0, 0);
        Halls.program(x, 1, 30, 1, 0);
        x.begin(1, 5);
        x.begin(0, 2);
        x.begin(0, 3);
        CHECK.same("go", x.go(100), 1);
        CHECK.same("taken", x.semaphore(1, 0), 0);
        x.begin(0, 1);
        x.go(100);
        CHECK.same("waits", x.state(3), 6);
        CHECK.same("waits", x.semaphore(1, 1), 1);
        x.begin(1, 4);
        x.go(100);
        CHECK.same("had its one", x.semaphore(1, 0), 3);
        CHECK.same("notes", Halls.notes(x), "1:2 2:3 3:1");
    }

    private static void fromTheFrontOn() {
        TurnHall x = new TurnHall(100);
        Halls.program(x, 0, 29, 1, 0, 12, 0, 0);
        x.begin(0, 3);
        x.begin(0, 1);
        x.begin(0, 0);
        x.begin(0, 9);
        x.begin(0, 1);
        x.go(100);
        CHECK.same("also one for 0 waits", x.semaphore(1, 1), 5);
        CHECK.same("too few for the first", x.supply(1, 2), 2);
        CHECK.same("too few for the first", x.semaphore(1, 1), 5);
        CHECK.same("three have theirs, the last has to wait", x.supply(1, 4), 2);
        CHECK.same("two wait", x.semaphore(1, 1), 2);
        x.begin(0, 1);
        x.go(100);
        CHECK.same("a new one stands behind them", x.semaphore(1, 1), 3);
        CHECK.same("all", x.supply(1, 9), 0);
        x.go(100);
        CHECK.same("notes", Halls.notes(x), "0:3 1:1 2:0 3:9 4:1 5:1");
    }

    private static void lastStepIsOver() {
        TurnHall x = new TurnHall(100);
        Halls.program(x, 0, 29, 1, 0);
        Halls.program(x, 1, 22, 1, 2, 12, 0, 0);
        x.begin(0, 1);
        x.begin(1, 0);
        x.go(100);
        x.supply(1, 1);
        CHECK.same("one that waited behind its last STEP has ENDED", x.state(0), 9);
        CHECK.same("who joined it goes on", x.state(1), 0);
    }

    private static void tries() {
        TurnHall x = new TurnHall(100);
        Halls.program(x, 0, 29, 1, 0);
        Halls.program(x, 1, 1, 1, 3, 31, 1, 1, 1, 2, 1, 31, 1, 2);
        x.begin(0, 5);
        x.supply(1, 2);
        x.go(100);
        x.begin(1, 0);
        x.go(100);
        CHECK.same("too few", x.register(1, 1), 0);
        CHECK.same("ahead of those that wait", x.register(1, 2), 1);
        CHECK.same("has", x.semaphore(1, 0), 1);
        CHECK.same("the other waits on", x.state(0), 6);
    }

    private static void great() {
        TurnHall x = new TurnHall(100);
        Halls.program(x, 0, 30, 1, 0);
        Halls.program(x, 1, 29, 1, 0);
        x.begin(0, Long.MAX_VALUE - 1);
        x.go(9);
        CHECK.same("at most is told", x.semaphore(1, 0), Integer.MAX_VALUE);
        CHECK.same("all", x.supply(1, 1), Long.MAX_VALUE);
        CHECK.same("more are lost", x.supply(1, 1000000), Long.MAX_VALUE);
        x.begin(0, Long.MAX_VALUE);
        x.begin(1, Long.MAX_VALUE);
        x.go(9);
        CHECK.same("all taken", x.semaphore(1, 0), 0);
        x.supply(1, 1000000);
        CHECK.same("exact below the most", x.semaphore(1, 0), 1000000);
    }
}
