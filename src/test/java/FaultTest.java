/** FAULTS, HANDLERS and CALLS (terms 1 and 3), as promises 13, 14 and 22 tell them. */
public final class FaultTest {
    private static final Check CHECK = new Check("FaultTest");
    private static final long[] NO_REGISTER = {-1, 4, 1L << 32, Long.MIN_VALUE, Long.MAX_VALUE};
    private static final long[] NO_EIGHT = {-1, 8, 1L << 32, Long.MIN_VALUE, Long.MAX_VALUE};

    public static void main(String[] args) {
        numbersOfNothing();
        places();
        handlers();
        raised();
        calls();
        CHECK.finish();
    }

    private static void numbersOfNothing() {
        int[] byA = {1, 2, 3, 4, 7, 12, 20, 21, 22, 23, 24, 34, 35};
        int[] byB = {2, 6, 16, 17, 22, 29, 30, 31, 32};
        int[] byEight = {14, 15, 16, 17, 18, 19, 25, 26, 27, 28, 29, 30, 31, 32, 33};
        for (long no : NO_REGISTER) {
            for (int op : byA) {
                CHECK.same("R[a] of " + op, Halls.faultOf(0, op, no, 0), 3);
            }
            for (int op : byB) {
                CHECK.same("R[b] of " + op, Halls.faultOf(0, op, 0, no), 3);
            }
        }
        for (long no : NO_EIGHT) {
            for (int op : byEight) {
                CHECK.same("what " + op + " names", Halls.faultOf(0, op, no, 0), 3);
            }
        }
        for (int op : new int[] {-1, 36, 37, 100, Integer.MIN_VALUE, Integer.MAX_VALUE}) {
            CHECK.same("operation " + op, Halls.faultOf(0, op, 0, 0), 3);
        }
        CHECK.same("the REGISTER is looked at first", Halls.faultOf(0, 6, 99, 4), 3);
        CHECK.same("the REGISTER is looked at first", Halls.faultOf(0, 17, 0, 4), 3);
        CHECK.same("nothing", Halls.faultOf(0, 0, -1, -1), 0);
        TurnHall x = new TurnHall(1);
        Halls.program(x, 0, 1, 3, 9, 10, 4, 0, 12, 5, 0, 0, 0, 0, 12, 3, 0);
        x.begin(0, 1);
        x.go(9);
        CHECK.same("the STEP does nothing else", Halls.notes(x), "0:3");
    }

    private static void places() {
        CHECK.same("behind the last STEP", Halls.faultOf(0, 5, 2, 0, 11, 50, 0), 0);
        CHECK.same("no such PLACE", Halls.faultOf(0, 5, 3, 0, 11, 50, 0), 9);
        CHECK.same("no such PLACE", Halls.faultOf(0, 5, -1, 0), 9);
        CHECK.same("no such PLACE", Halls.faultOf(0, 5, 1L << 32, 0), 9);
        CHECK.same("if above 0", Halls.faultOf(1, 6, 2, 0, 11, 50, 0), 0);
        CHECK.same("if above 0: no such PLACE", Halls.faultOf(1, 6, 3, 0, 11, 50, 0), 9);
        CHECK.same("0 does not go there", Halls.faultOf(0, 6, 2, 0, 11, 50, 0), 50);
        CHECK.same("0 does not look there", Halls.faultOf(0, 6, 99, 0, 11, 50, 0), 50);
        CHECK.same("below 0 does not go there", Halls.faultOf(-1, 6, 2, 0, 11, 50, 0), 50);
        CHECK.same("a HANDLER in the PROGRAM", Halls.faultOf(0, 10, 1, 0, 0, 0, 0), 0);
        CHECK.same("none", Halls.faultOf(0, 10, -1, 0), 0);
        CHECK.same("behind the last STEP is not in the PROGRAM", Halls.faultOf(0, 10, 1, 0), 9);
        CHECK.same("no HANDLER", Halls.faultOf(0, 10, -2, 0), 9);
        CHECK.same("no HANDLER", Halls.faultOf(0, 10, 1L << 32, 0), 9);
    }

    private static void handlers() {
        TurnHall x = new TurnHall(1);
        Halls.program(x, 0, 10, 4, 0, 8, 1, 0, 12, 0, 0, 9, 0, 0, 12, 3, 0, 11, 71, 0);
        Halls.program(x, 1, 8, 2, 0, 12, 0, 0);
        Halls.program(x, 2, 10, 1, 0, 10, -1, 0, 10, 4, 0, 11, 70, 0, 12, 3, 0, 11, 72, 0);
        x.begin(0, 0);
        x.go(3);
        CHECK.same("CALLS", x.thread(0, 0), 3);
        CHECK.same("without HANDLER", x.thread(0, 3), -1);
        x.go(1);
        CHECK.same("HANDLER", x.thread(0, 3), 1);
        x.go(1);
        CHECK.same("none again", x.thread(0, 3), -1);
        x.go(2);
        CHECK.same("caught in the innermost CALL", x.thread(0, 0), 3);
        CHECK.same("at its PLACE", x.thread(0, 2), 4);
        CHECK.same("HANDLER is none then", x.thread(0, 3), -1);
        CHECK.same("REGISTER 3", x.register(0, 3), 70);
        x.go(2);
        CHECK.same("those within are left", x.thread(0, 0), 1);
        CHECK.same("PROGRAM", x.thread(0, 1), 0);
        CHECK.same("PLACE", x.thread(0, 2), 4);
        CHECK.same("go", x.go(9), 1);
        CHECK.same("ENDED by a FAULT", x.state(0), 10);
        CHECK.same("FAULT", x.thread(0, 6), 71);
        CHECK.same("REGISTER 3 is of the one that was caught", x.register(0, 3), 72);
        CHECK.same("FAULTS ever", x.count(6), 3);
        CHECK.same("notes", Halls.notes(x), "0:70 0:72");
        CHECK.same("a FAULT's STEP is one", x.thread(0, 7), 11);
    }

    private static void raised() {
        CHECK.same("1", Halls.faultOf(0, 11, 1, 0), 1);
        CHECK.same("1000000", Halls.faultOf(0, 11, 1000000, 0), 1000000);
        CHECK.same("1000001", Halls.faultOf(0, 11, 1000001, 0), 3);
        CHECK.same("0", Halls.faultOf(0, 11, 0, 0), 3);
        CHECK.same("-1", Halls.faultOf(0, 11, -1, 0), 3);
        CHECK.same("1 and 32 bits", Halls.faultOf(0, 11, (1L << 32) + 1, 0), 3);
        TurnHall x = new TurnHall(1);
        Halls.program(x, 0, 14, 2, 0, 25, 3, 0, 11, 8, 0);
        x.begin(0, 0);
        x.go(9);
        CHECK.same("what it holds it keeps", x.monitor(2, 0), 0);
        CHECK.same("what it holds it keeps", x.lock(3, 2), 1);
    }

    private static void calls() {
        TurnHall x = new TurnHall(1);
        Halls.program(x, 0, 8, 0, 0);
        x.begin(0, 0);
        x.go(19);
        CHECK.same("20 CALLS", x.thread(0, 0), 20);
        CHECK.same("READY", x.state(0), 0);
        x.go(1);
        CHECK.same("too many", x.thread(0, 6), 5);
        CHECK.same("no PROGRAM", Halls.faultOf(0, 8, 16, 0), 3);
        CHECK.same("no PROGRAM", Halls.faultOf(0, 8, -1, 0), 3);
        CHECK.same("no PROGRAM", Halls.faultOf(0, 8, 1L << 32, 0), 3);
        TurnHall twice = new TurnHall(1);
        Halls.program(twice, 0, 8, 1, 0, 8, 1, 0);
        Halls.program(twice, 1, 10, 0, 0, 12, 0, 0);
        twice.begin(0, 6);
        twice.go(4);
        CHECK.same("each CALL begins at PLACE 0", twice.thread(0, 2), 0);
        CHECK.same("and without HANDLER", twice.thread(0, 3), -1);
        twice.go(9);
        CHECK.same("twice", Halls.notes(twice), "0:6 0:6");
        TurnHall y = new TurnHall(1);
        Halls.program(y, 0, 7, 0, 0, 6, 3, 0, 8, 99, 0, 8, 0, 0);
        y.begin(0, 100);
        y.go(100);
        CHECK.same("the 20th CALL has no 21st, empty or not", y.thread(0, 6), 5);
        TurnHall z = new TurnHall(1);
        Halls.program(z, 0, 7, 0, 0, 6, 4, 0, 8, 1, 0, 9, 0, 0, 8, 0, 0);
        z.begin(0, 20);
        z.go(1000);
        CHECK.same("20 CALLS and an empty one", z.thread(0, 6), 5);
        TurnHall w = new TurnHall(1);
        Halls.program(w, 0, 7, 0, 0, 6, 4, 0, 8, 1, 0, 9, 0, 0, 8, 0, 0);
        w.begin(0, 19);
        CHECK.same("19 CALLS and an empty one", w.go(1000) + w.thread(0, 6), 1);
    }
}
