/** Promises 1 to 4: a new object, put, drop, begin. */
public final class ProgramTest {
    private static final Check CHECK = new Check("ProgramTest");

    public static void main(String[] args) {
        aNewObject();
        quantumCountsAsTheNearest();
        put();
        drop();
        begin();
        CHECK.finish();
    }

    private static void aNewObject() {
        TurnHall x = new TurnHall(1);
        for (int what = 0; what < 8; what++) {
            CHECK.same("new count " + what, x.count(what), 0);
        }
        for (int i = 0; i < 8; i++) {
            CHECK.same("new owner", x.monitor(i, 0), -1);
            CHECK.same("new COUNT", x.monitor(i, 1), 0);
            CHECK.same("new writer", x.lock(i, 0), -1);
            CHECK.same("new reads", x.lock(i, 2), 0);
            CHECK.same("new semaphore", x.semaphore(i, 0), 0);
            CHECK.same("new PARTIES", x.barrier(i, 0), 1);
            CHECK.same("new barrier is whole", x.barrier(i, 2), 0);
        }
        for (int p = 0; p < 16; p++) {
            CHECK.same("new PROGRAM", x.drop(p), 0);
        }
        for (int i = 0; i < 32; i++) {
            CHECK.same("new CELL", x.cell(i), 0);
        }
        CHECK.same("new note", x.note(0, true), -1);
    }

    private static void quantumCountsAsTheNearest() {
        int[] given = {Integer.MIN_VALUE, -1, 0, 1, 2, 999, 1000, 1001, Integer.MAX_VALUE};
        int[] due = {1, 1, 1, 1, 2, 999, 1000, 1000, 1000};
        for (int i = 0; i < given.length; i++) {
            TurnHall x = new TurnHall(given[i]);
            Halls.program(x, 0, 5, 0, 0);
            x.begin(0, 0);
            x.begin(0, 0);
            x.go(due[i] + 1);
            CHECK.same("STEPS of 0, QUANTUM " + given[i], x.thread(0, 7), due[i]);
            CHECK.same("STEPS of 1, QUANTUM " + given[i], x.thread(1, 7), 1);
        }
    }

    private static void put() {
        TurnHall x = new TurnHall(1);
        for (int i = 0; i < 200; i++) {
            CHECK.same("put is its PLACE", x.put(15, 0, 0, 0), i);
        }
        CHECK.refused("put of the 201st", () -> x.put(15, 0, 0, 0));
        CHECK.same("put elsewhere", x.put(0, 0, 0, 0), 0);
        CHECK.same("an operation that is none", x.put(0, 36, Long.MIN_VALUE, Long.MAX_VALUE), 1);
        CHECK.same("an operation that is none", x.put(0, Integer.MIN_VALUE, 0, 0), 2);
        CHECK.bad("put(-1)", () -> x.put(-1, 0, 0, 0));
        CHECK.bad("put(16)", () -> x.put(16, 0, 0, 0));
        CHECK.same("what throws changes nothing", x.drop(15), 200);
        CHECK.same("what throws changes nothing", x.drop(0), 3);
        CHECK.same("put after drop", x.put(15, 0, 0, 0), 0);
        CHECK.same("one that waits behind the last STEP does what is put then", putWhileOneWaits(), 2);
    }

    private static long putWhileOneWaits() {
        TurnHall x = new TurnHall(9);
        Halls.program(x, 0, 34, 0, 0);
        x.begin(0, 0);
        x.go(9);
        x.put(0, 12, 1, 0);
        x.interrupt(0);
        x.go(9);
        return x.thread(0, 7);
    }

    private static void drop() {
        TurnHall x = new TurnHall(1);
        Halls.program(x, 3, 8, 4, 0, 0, 0, 0);
        Halls.program(x, 4, 13, 0, 0, 13, 0, 0);
        CHECK.same("drop without a THREAD", x.drop(4), 2);
        CHECK.same("drop again", x.drop(4), 0);
        Halls.program(x, 4, 13, 0, 0, 13, 0, 0);
        x.begin(3, 0);
        CHECK.refused("drop of a READY one's", () -> x.drop(3));
        CHECK.same("drop of one not called yet", x.drop(4), 2);
        Halls.program(x, 4, 34, 1, 0);
        x.go(2);
        CHECK.same("parked in the inner CALL", x.state(0), 8);
        CHECK.refused("drop of the inner CALL's", () -> x.drop(4));
        CHECK.refused("drop of the outer CALL's", () -> x.drop(3));
        x.interrupt(0);
        CHECK.same("drop of a CALL that is over", x.drop(4), 1);
        CHECK.refused("drop of the one that is left", () -> x.drop(3));
        x.go(9);
        CHECK.same("drop of an ENDED one's", x.drop(3), 2);
        CHECK.bad("drop(-1)", () -> x.drop(-1));
        CHECK.bad("drop(16)", () -> x.drop(16));
        x.begin(3, 0);
        CHECK.same("dropped is empty", x.state(1), 9);
    }

    private static void begin() {
        TurnHall x = new TurnHall(1);
        CHECK.bad("begin(-1)", () -> x.begin(-1, 0));
        CHECK.bad("begin(16)", () -> x.begin(16, 0));
        CHECK.same("what throws begins none", x.count(0), 0);
        Halls.program(x, 0, 12, 0, 0);
        CHECK.same("the first", x.begin(0, Long.MIN_VALUE), 0);
        CHECK.same("is READY", x.state(0), 0);
        CHECK.same("R[0]", x.register(0, 0), Long.MIN_VALUE);
        CHECK.same("R[1]", x.register(0, 1), 0);
        CHECK.same("of an empty PROGRAM", x.begin(1, 7), 1);
        CHECK.same("has ENDED at once", x.state(1), 9);
        CHECK.same("with its REGISTER", x.register(1, 0), 7);
        CHECK.same("without a STEP", x.thread(1, 7), 0);
        for (int t = 2; t < 64; t++) {
            CHECK.same("number", x.begin(15, 0), t);
        }
        CHECK.refused("the 65th", () -> x.begin(0, 0));
        CHECK.bad("the argument is looked at first", () -> x.begin(16, 0));
        CHECK.same("THREADS ever", x.count(0), 64);
    }
}
