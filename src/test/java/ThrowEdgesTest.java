/**
 * Term 4: "where an argument is none that is told: IllegalArgumentException (BAD). What throws changes nothing." Two
 * halls do the same, but in one of them everything is called between that throws: they tell the same to the end.
 */
public final class ThrowEdgesTest {
    private static final Check CHECK = new Check("ThrowEdgesTest");
    private static final int[] FAR = {Integer.MIN_VALUE, -1, 64, 1001, 20001, 1000001, Integer.MAX_VALUE};

    public static void main(String[] args) {
        CHECK.sentence("What throws changes nothing");
        inMidTurn();
        whenAllIsFull();
        CHECK.finish();
    }

    private static TurnHall busy() {
        TurnHall x = Halls.with(5, 12, 0, 0, 14, 0, 0, 15, 0, 0, 20, 1, 0, 5, 0, 0);
        Halls.program(x, 1, 32, 0, 1);
        Halls.program(x, 2, 29, 0, 0, 30, 0, 0, 5, 0, 0);
        Halls.program(x, 3, 26, 0, 0, 26, 0, 0, 13, 0, 0, 28, 0, 0, 28, 0, 0, 5, 0, 0);
        x.parties(0, 2);
        x.supply(0, 3);
        x.begin(0, 4);
        x.begin(1, 0);
        x.begin(2, 2);
        x.begin(3, 0);
        x.begin(3, 0);
        x.go(18);
        x.schedule(3, 2);
        x.schedule(0, 7);
        return x;
    }

    private static void inMidTurn() {
        TurnHall x = busy();
        TurnHall y = busy();
        for (int round = 0; round < 6; round++) {
            throwAll(x);
            CHECK.same("all is as it was", Halls.all(x), Halls.all(y));
            CHECK.same("go", x.go(7), y.go(7));
            throwAll(x);
            CHECK.same("tick", x.tick(1), y.tick(1));
        }
        CHECK.same("all is as it was", Halls.all(x), Halls.all(y));
    }

    private static void throwAll(TurnHall x) {
        CHECK.refused("a PROGRAM that is called", () -> x.drop(1));
        CHECK.refused("a BARRIER where one waits", () -> x.parties(0, 3));
        for (int no : FAR) {
            throwPrograms(x, no);
            throwViews(x, no);
        }
        for (int no : new int[] {0, -1, Integer.MIN_VALUE}) {
            CHECK.bad("go", () -> x.go(no));
            CHECK.bad("tick", () -> x.tick(no));
            CHECK.bad("schedule", () -> x.schedule(0, no));
            CHECK.bad("parties", () -> x.parties(1, no));
        }
        CHECK.bad("go", () -> x.go(20001));
        CHECK.bad("tick", () -> x.tick(1000001));
        CHECK.bad("schedule", () -> x.schedule(0, 1001));
        CHECK.bad("parties", () -> x.parties(1, 65));
        CHECK.bad("supply", () -> x.supply(0, 1000001));
        CHECK.bad("supply", () -> x.supply(0, -1));
    }

    private static void throwPrograms(TurnHall x, int no) {
        CHECK.bad("put", () -> x.put(no, 11, 1, 1));
        CHECK.bad("drop", () -> x.drop(no));
        CHECK.bad("begin", () -> x.begin(no, 1));
        CHECK.bad("schedule", () -> x.schedule(no, 1));
        CHECK.bad("interrupt", () -> x.interrupt(no));
        CHECK.bad("supply", () -> x.supply(no, 1));
        CHECK.bad("parties", () -> x.parties(no, 2));
        CHECK.bad("set", () -> x.set(no, 1));
    }

    private static void throwViews(TurnHall x, int no) {
        CHECK.bad("cell", () -> x.cell(no));
        CHECK.bad("state", () -> x.state(no));
        CHECK.bad("thread", () -> x.thread(no, 0));
        CHECK.bad("thread", () -> x.thread(0, no));
        CHECK.bad("register", () -> x.register(no, 0));
        CHECK.bad("register", () -> x.register(0, no));
        CHECK.bad("monitor", () -> x.monitor(no, 0));
        CHECK.bad("monitor", () -> x.monitor(0, no));
        CHECK.bad("lock", () -> x.lock(no, 0));
        CHECK.bad("lock", () -> x.lock(0, no));
        CHECK.bad("semaphore", () -> x.semaphore(no, 0));
        CHECK.bad("semaphore", () -> x.semaphore(0, no));
        CHECK.bad("barrier", () -> x.barrier(no, 0));
        CHECK.bad("barrier", () -> x.barrier(0, no));
        CHECK.bad("ring", () -> x.ring(no));
        CHECK.bad("count", () -> x.count(no));
    }

    private static TurnHall full() {
        TurnHall x = new TurnHall(3);
        Halls.repeat(x, 0, 199, 12, 0, 0);
        x.put(0, 5, 0, 0);
        for (int t = 0; t < 64; t++) {
            x.begin(0, t);
        }
        x.go(4);
        for (int i = 0; i < 256; i++) {
            x.schedule(i & 63, 1 + i);
        }
        return x;
    }

    private static void whenAllIsFull() {
        TurnHall x = full();
        TurnHall y = full();
        CHECK.refused("it has 200", () -> x.put(0, 11, 1, 1));
        CHECK.refused("there were 64", () -> x.begin(0, 1));
        CHECK.refused("256", () -> x.schedule(1, 1));
        CHECK.refused("64 THREADS have a CALL of it", () -> x.drop(0));
        CHECK.same("go", x.go(2000), y.go(2000));
        CHECK.same("all is as it was", Halls.all(x), Halls.all(y));
    }
}
