/** Promise 17: lock, and STEPS 25 to 28. */
public final class LockTest {
    private static final Check CHECK = new Check("LockTest");

    public static void main(String[] args) {
        ranges();
        readersTogether();
        writerAlone();
        again();
        fromTheFrontOn();
        downAndUp();
        notItsOwn();
        CHECK.finish();
    }

    private static String told(TurnHall x, int l) {
        StringBuilder text = new StringBuilder();
        for (int what = 0; what < 5; what++) {
            text.append(what == 0 ? "" : " ").append(x.lock(l, what));
        }
        return text.toString();
    }

    private static void ranges() {
        TurnHall x = new TurnHall(1);
        CHECK.same("new", told(x, 7), "-1 0 0 0 -1");
        CHECK.bad("lock(-1)", () -> x.lock(-1, 0));
        CHECK.bad("lock(8)", () -> x.lock(8, 0));
        CHECK.bad("what -1", () -> x.lock(0, -1));
        CHECK.bad("what 5", () -> x.lock(0, 5));
    }

    /** PROGRAM 0 reads, 1 writes LOCK 7; each parks, and gives back once what it has. */
    private static TurnHall hall() {
        TurnHall x = new TurnHall(100);
        Halls.program(x, 0, 25, 7, 0, 34, 3, 0, 27, 7, 0);
        Halls.program(x, 1, 26, 7, 0, 34, 3, 0, 28, 7, 0);
        return x;
    }

    private static void begin(TurnHall x, int... programs) {
        for (int p : programs) {
            x.begin(p, 0);
        }
        x.go(1000);
    }

    private static void wake(TurnHall x, int t) {
        x.interrupt(t);
        x.go(1000);
    }

    private static void readersTogether() {
        TurnHall x = hall();
        begin(x, 0, 0, 0);
        CHECK.same("three read", told(x, 7), "-1 0 3 0 -1");
        wake(x, 1);
        CHECK.same("two read", told(x, 7), "-1 0 2 0 -1");
        begin(x, 1);
        CHECK.same("a writer waits", told(x, 7), "-1 0 2 1 3");
        CHECK.same("state", x.state(3), 5);
        begin(x, 0);
        CHECK.same("a reader waits behind it", told(x, 7), "-1 0 2 2 3");
        wake(x, 0);
        wake(x, 2);
        CHECK.same("the writer alone", told(x, 7), "3 1 0 1 4");
        wake(x, 3);
        CHECK.same("then the reader", told(x, 7), "-1 0 1 0 -1");
    }

    private static void writerAlone() {
        TurnHall x = hall();
        begin(x, 1, 1, 0);
        CHECK.same("one writes", told(x, 7), "0 1 0 2 1");
        wake(x, 0);
        CHECK.same("the next one", told(x, 7), "1 1 0 1 2");
    }

    private static void again() {
        TurnHall x = new TurnHall(100);
        Halls.program(x, 0, 26, 7, 0, 26, 7, 0, 25, 7, 0, 25, 7, 0, 34, 1, 0, 28, 7, 0, 34, 2, 0, 24, 0, 0, 34, 2, 0,
            28, 7, 0, 34, 1, 0);
        Halls.program(x, 1, 25, 7, 0);
        Halls.program(x, 2, 26, 7, 0);
        begin(x, 0, 1, 2, 1);
        CHECK.same("writes and reads twice", told(x, 7), "0 2 2 3 1");
        x.interrupt(0);
        x.go(1000);
        CHECK.same("writes once less", told(x, 7), "0 1 2 3 1");
        x.interrupt(0);
        x.go(1000);
        CHECK.same("reads on: the reader in front has it, not the writer", told(x, 7), "-1 0 3 2 2");
        TurnHall y = new TurnHall(100);
        Halls.program(y, 0, 25, 7, 0, 34, 1, 0, 25, 7, 0);
        Halls.program(y, 1, 26, 7, 0);
        begin(y, 0, 1);
        wake(y, 0);
        CHECK.same("who reads it already may, though one waits", told(y, 7), "-1 0 2 1 1");
    }

    private static void fromTheFrontOn() {
        TurnHall x = hall();
        begin(x, 1, 0, 0, 1, 0);
        wake(x, 0);
        CHECK.same("readers as many as stand there", told(x, 7), "-1 0 2 2 3");
        CHECK.same("states", x.state(1) * 1000 + x.state(2) * 100 + x.state(3) * 10 + x.state(4), 8855);
        wake(x, 2);
        wake(x, 1);
        wake(x, 3);
        wake(x, 4);
        CHECK.same("free", told(x, 7), "-1 0 0 0 -1");
        CHECK.same("all have ENDED", x.go(1), 1);
    }

    private static void downAndUp() {
        TurnHall x = new TurnHall(100);
        Halls.program(x, 0, 25, 7, 0, 26, 7, 0);
        begin(x, 0);
        CHECK.same("it reads itself, so it waits", told(x, 7), "-1 0 1 1 0");
        TurnHall y = new TurnHall(100);
        Halls.program(y, 0, 26, 7, 0, 25, 7, 0, 26, 7, 0);
        begin(y, 0);
        CHECK.same("also if it writes", told(y, 7), "0 1 1 1 0");
    }

    private static void notItsOwn() {
        CHECK.same("reads not", Halls.faultOf(0, 27, 7, 0), 1);
        CHECK.same("writes not", Halls.faultOf(0, 28, 7, 0), 1);
        CHECK.same("reads once", Halls.faultOf(0, 25, 7, 0, 27, 7, 0, 27, 7, 0), 1);
        CHECK.same("writes once", Halls.faultOf(0, 26, 7, 0, 28, 7, 0, 28, 7, 0), 1);
        CHECK.same("writes, reads not", Halls.faultOf(0, 26, 7, 0, 27, 7, 0), 1);
        CHECK.same("reads, writes not", Halls.faultOf(0, 25, 7, 0, 28, 7, 0), 1);
        CHECK.same("another LOCK", Halls.faultOf(0, 25, 6, 0, 27, 7, 0), 1);
        TurnHall x = new TurnHall(100);
        Halls.program(x, 0, 25, 7, 0);
        Halls.program(x, 1, 27, 7, 0);
        begin(x, 0, 1);
        CHECK.same("another one reads", x.thread(1, 6), 1);
        CHECK.same("who ENDED keeps it", told(x, 7), "-1 0 1 0 -1");
    }
}
