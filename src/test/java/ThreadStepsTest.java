/** STEPS 21, 22, 34 and 35: starting, joining, parking, unparking (promises 4, 13, 14). */
public final class ThreadStepsTest {
    private static final Check CHECK = new Check("ThreadStepsTest");

    public static void main(String[] args) {
        starts();
        joins();
        parks();
        CHECK.finish();
    }

    private static void starts() {
        TurnHall x = new TurnHall(100);
        Halls.program(x, 0, 1, 1, 11, 1, 2, 12, 1, 3, 13, 21, 2, 1, 12, 2, 0);
        Halls.program(x, 1, 12, 2, 0, 12, 3, 0);
        x.begin(0, 10);
        x.begin(5, 0);
        x.go(100);
        CHECK.same("its number, in the new one, too", Halls.notes(x), "0:2 2:2 2:13");
        CHECK.same("copies", x.register(2, 0) * 100 + x.register(2, 1), 1011);
        CHECK.same("an empty one has ENDED at once", startsAnEmptyOne(), 9);
        CHECK.same("no PROGRAM", Halls.faultOf(0, 21, 0, 16), 3);
        CHECK.same("no PROGRAM", Halls.faultOf(0, 21, 0, -1), 3);
        TurnHall y = new TurnHall(100);
        Halls.program(y, 0, 21, 0, 1, 5, 0, 0);
        y.begin(0, 0);
        CHECK.same("go", y.go(1000), 1);
        CHECK.same("64 THREADS", y.count(0), 64);
        CHECK.same("too many", y.thread(0, 6), 8);
        CHECK.same("R[a] stays", y.register(0, 0), 63);
        y.drop(0);
        CHECK.refused("begin", () -> y.begin(0, 0));
        TurnHall z = new TurnHall(100);
        Halls.program(z, 0, 21, 0, 99);
        for (int t = 0; t < 64; t++) {
            z.begin(0, 0);
        }
        z.go(1);
        CHECK.same("FAULT 3 before FAULT 8", z.thread(0, 6), 3);
    }

    private static long startsAnEmptyOne() {
        TurnHall x = new TurnHall(100);
        Halls.program(x, 0, 21, 0, 1, 0, 0, 0);
        x.begin(0, 0);
        x.go(1);
        return x.state(1);
    }

    private static void joins() {
        TurnHall x = new TurnHall(100);
        Halls.program(x, 0, 34, 1, 0);
        Halls.program(x, 1, 22, 0, 1, 12, 0, 0);
        Halls.program(x, 2, 1, 1, 3, 22, 0, 1, 12, 0, 0);
        x.begin(0, 0);
        x.begin(1, 0);
        x.begin(2, 0);
        x.begin(1, 2);
        x.go(100);
        CHECK.same("they join", x.state(1) * 100 + x.state(2) * 10 + x.state(3), 444);
        CHECK.same("by time", x.tick(3), 1);
        x.go(100);
        CHECK.same("without FAULT", x.state(2), 9);
        CHECK.same("and who joined it", x.state(3), 9);
        x.interrupt(0);
        CHECK.same("the joined one has ENDED", x.state(0), 9);
        CHECK.same("the joiner goes on", x.state(1), 0);
        x.begin(1, 0);
        CHECK.same("an ENDED one", x.go(100), 1);
        CHECK.same("notes", Halls.notes(x), "2:0 3:2 4:0 1:0");
        CHECK.same("none such", Halls.faultOf(1, 22, 0, 1), 6);
        CHECK.same("none such", Halls.faultOf(-1, 22, 0, 1), 6);
        CHECK.same("none such", Halls.faultOf(1L << 32, 22, 0, 1), 6);
        CHECK.same("below 0", Halls.faultOf(0, 1, 1, -1, 22, 0, 1), 3);
        CHECK.same("none such is told first", Halls.faultOf(5, 1, 1, -1, 22, 0, 1), 6);
        TurnHall y = new TurnHall(100);
        Halls.program(y, 0, 13, 0, 0, 11, 77, 0);
        Halls.program(y, 1, 22, 0, 1);
        y.begin(0, 0);
        y.begin(1, 0);
        CHECK.same("by a FAULT, too", y.go(100), 1);
        CHECK.same("the joiner has none", y.state(1), 9);
    }

    private static void parks() {
        TurnHall x = new TurnHall(100);
        Halls.program(x, 0, 34, 1, 0, 12, 0, 0, 34, 1, 0, 12, 0, 0);
        Halls.program(x, 1, 35, 0, 0);
        x.begin(0, 5);
        x.go(100);
        CHECK.same("parks", x.state(0), 8);
        x.begin(1, 0);
        x.go(1);
        CHECK.same("goes on", x.state(0), 0);
        CHECK.same("without PERMIT", x.thread(0, 5), 0);
        x.begin(1, 0);
        x.begin(1, 0);
        x.schedule(2, 1);
        x.schedule(3, 1);
        x.go(2);
        CHECK.same("one PERMIT", x.thread(0, 5), 1);
        CHECK.same("it does not park again", x.go(100), 1);
        CHECK.same("the PERMIT goes", x.thread(0, 5), 0);
        x.begin(1, 0);
        x.go(9);
        CHECK.same("ENDED has none", x.thread(0, 5), 0);
        CHECK.same("none such", Halls.faultOf(1, 35, 0, 0), 6);
        CHECK.same("none such", Halls.faultOf(-1, 35, 0, 0), 6);
        CHECK.same("below 0", Halls.faultOf(-1, 34, 0, 0), 3);
        CHECK.same("itself", Halls.faultOf(0, 35, 0, 0, 34, 0, 0, 11, 40, 0), 40);
        TurnHall y = new TurnHall(100);
        Halls.program(y, 0, 35, 0, 0, 34, 0, 0, 0, 0, 0);
        y.begin(0, 0);
        y.interrupt(0);
        y.go(2);
        CHECK.same("with both the PERMIT goes, the MARK stays", y.thread(0, 5) * 10 + y.thread(0, 4), 1);
        TurnHall z = new TurnHall(100);
        Halls.program(z, 0, 29, 0, 0, 34, 1, 0, 0, 0, 0);
        z.begin(0, 1);
        z.begin(1, 0);
        z.drop(1);
        Halls.program(z, 1, 35, 1, 0);
        z.go(9);
        z.begin(1, 0);
        z.go(9);
        CHECK.same("one that waits otherwise has its PERMIT", z.thread(0, 5) * 10 + z.state(0), 16);
    }
}
