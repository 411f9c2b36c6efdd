/** Promise 7: tick, and what is due. */
public final class ClockTest {
    private static final Check CHECK = new Check("ClockTest");

    public static void main(String[] args) {
        ranges();
        sleeping();
        earliestFirst();
        ofTheSameTime();
        whatIsNotDueByItself();
        endlessAndFar();
        CHECK.finish();
    }

    private static void ranges() {
        TurnHall x = new TurnHall(1);
        CHECK.bad("tick(0)", () -> x.tick(0));
        CHECK.bad("tick(-1)", () -> x.tick(-1));
        CHECK.bad("tick(1000001)", () -> x.tick(1000001));
        CHECK.same("nothing is changed", x.count(7), 0);
        CHECK.same("tick(1000000)", x.tick(1000000), 0);
        CHECK.same("tick(1)", x.tick(1), 0);
        CHECK.same("THE CLOCK", x.count(7), 1000001);
        for (int i = 0; i < 2148; i++) {
            x.tick(1000000);
        }
        CHECK.same("its lowest 31 bits", x.count(7), 2149000001L - 2147483648L);
    }

    private static void sleeping() {
        TurnHall x = new TurnHall(1);
        Halls.program(x, 0, 20, 0, 0, 12, 0, 0);
        x.begin(0, 0);
        x.begin(0, 1);
        x.begin(0, 5);
        x.begin(0, 6);
        x.go(9);
        CHECK.same("0 and 1 at the next tick", x.tick(1), 2);
        CHECK.same("not yet", x.tick(3), 0);
        CHECK.same("sleeps", x.state(2), 3);
        CHECK.same("both by one tick", x.tick(100), 2);
        x.go(99);
        CHECK.same("notes", Halls.notes(x), "0:0 1:1 2:5 3:6");
        CHECK.same("below 0", Halls.faultOf(-1, 20, 0, 0), 3);
    }

    /** The order is seen in ENTERING: who is due asks for the MONITOR, which another one owns. */
    private static void earliestFirst() {
        TurnHall x = new TurnHall(100);
        Halls.program(x, 0, 14, 0, 0, 17, 0, 0, 12, 0, 0, 15, 0, 0);
        Halls.program(x, 1, 14, 0, 0, 34, 1, 0, 15, 0, 0);
        x.begin(0, 7);
        x.begin(0, 3);
        x.begin(0, 7);
        x.begin(0, 5);
        x.begin(0, 3);
        x.begin(1, 0);
        x.go(100);
        CHECK.same("also one that has to wait for its MONITOR", x.tick(10), 5);
        CHECK.same("they ask for it", x.monitor(0, 2), 5);
        CHECK.same("nobody is left there", x.monitor(0, 3), 0);
        x.interrupt(5);
        x.go(100);
        CHECK.same("order", Halls.notes(x), "1:3 4:3 3:5 0:7 2:7");
    }

    /** Of the same time those that began to wait first, whatever their numbers are and whenever they came. */
    private static void ofTheSameTime() {
        TurnHall x = new TurnHall(100);
        Halls.program(x, 0, 14, 0, 0, 17, 0, 0, 12, 0, 0, 15, 0, 0);
        Halls.program(x, 1, 14, 0, 0, 34, 1, 0, 15, 0, 0);
        x.begin(0, 6);
        x.begin(0, 6);
        x.begin(0, 9);
        x.begin(0, 6);
        x.schedule(2, 2);
        x.go(2);
        x.tick(3);
        x.schedule(3, 2);
        x.schedule(0, 2);
        x.schedule(1, 2);
        x.go(6);
        x.begin(1, 0);
        x.go(100);
        CHECK.same("all at 9", x.tick(6), 4);
        x.interrupt(4);
        x.go(100);
        CHECK.same("order", Halls.notes(x), "2:9 3:6 0:6 1:6");
    }

    private static void whatIsNotDueByItself() {
        TurnHall x = new TurnHall(100);
        x.parties(0, 3);
        Halls.program(x, 0, 32, 0, 0);
        x.begin(0, 4);
        x.begin(0, 4);
        x.go(100);
        CHECK.same("the first breaks the BARRIER, the other has FAULT 4", x.tick(4), 1);
        CHECK.same("time is over", x.thread(0, 6), 7);
        CHECK.same("broken", x.thread(1, 6), 4);
        TurnHall y = new TurnHall(100);
        Halls.program(y, 0, 20, 0, 0);
        Halls.program(y, 1, 1, 1, 4, 22, 0, 1, 12, 1, 0);
        y.begin(0, 4);
        y.begin(1, 0);
        y.go(100);
        CHECK.same("the joined one ENDED first", y.tick(4), 1);
        CHECK.same("its joiner goes on", y.state(1), 0);
        TurnHall z = new TurnHall(100);
        Halls.program(z, 0, 20, 0, 0);
        Halls.program(z, 1, 1, 1, 4, 22, 0, 1, 12, 1, 0);
        z.begin(1, 1);
        z.begin(0, 4);
        z.go(100);
        CHECK.same("the joiner began to wait first", z.tick(4), 2);
    }

    private static void endlessAndFar() {
        TurnHall x = new TurnHall(100);
        Halls.program(x, 0, 34, 0, 0);
        Halls.program(x, 1, 20, 0, 0);
        Halls.program(x, 2, 22, 1, 0);
        x.tick(5);
        x.begin(0, 0);
        x.begin(0, Long.MAX_VALUE);
        x.begin(1, Long.MAX_VALUE);
        x.begin(2, 0);
        x.begin(2, Long.MAX_VALUE);
        x.begin(0, 5);
        x.begin(2, 5);
        x.go(100);
        CHECK.same("only those with a near end", x.tick(1000000), 2);
        CHECK.same("parked by time goes on without PERMIT", x.thread(5, 5), 0);
        CHECK.same("ENDED", x.state(5) + x.state(6), 18);
        CHECK.same("the others wait", x.count(1) + x.count(2), 2);
    }
}
