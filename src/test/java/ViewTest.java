/** Promises 13 to 15, 20 and 22: state, thread, register, note, count. */
public final class ViewTest {
    private static final Check CHECK = new Check("ViewTest");

    public static void main(String[] args) {
        states();
        threads();
        registers();
        notes();
        counts();
        whatThrowsChangesNothing();
        CHECK.finish();
    }

    private static void states() {
        TurnHall x = new TurnHall(100);
        CHECK.bad("state of none", () -> x.state(0));
        x.parties(0, 2);
        Halls.program(x, 0, 14, 0, 0, 26, 0, 0, 34, 1, 0);
        Halls.program(x, 1, 14, 0, 0);
        Halls.program(x, 2, 14, 1, 0, 17, 1, 1);
        Halls.program(x, 3, 20, 0, 0);
        Halls.program(x, 4, 22, 1, 1);
        Halls.program(x, 5, 25, 0, 0);
        Halls.program(x, 6, 29, 0, 0);
        Halls.program(x, 7, 32, 0, 1);
        Halls.program(x, 8, 0, 0, 0);
        Halls.program(x, 9, 11, 4, 0);
        Halls.program(x, 10, 5, 0, 0);
        for (int p = 0; p <= 10; p++) {
            x.begin(p, 1);
        }
        x.go(1000);
        int[] due = {8, 1, 2, 3, 4, 5, 6, 7, 9, 10, 0};
        for (int t = 0; t <= 10; t++) {
            CHECK.same("state of " + t, x.state(t), due[t]);
        }
        CHECK.bad("state(-1)", () -> x.state(-1));
        CHECK.bad("state(11)", () -> x.state(11));
    }

    private static void threads() {
        TurnHall x = new TurnHall(100);
        CHECK.bad("thread of none", () -> x.thread(0, 0));
        Halls.program(x, 5, 10, 1, 0, 8, 6, 0, 9, 0, 0);
        Halls.program(x, 6, 0, 0, 0, 34, 0, 0);
        x.begin(5, 0);
        CHECK.same("new", told(x), "1 5 0 -1 0 0 0 0");
        x.go(1);
        CHECK.same("with a HANDLER", told(x), "1 5 1 1 0 0 0 1");
        x.go(1);
        CHECK.same("in a CALL", told(x), "2 6 0 -1 0 0 0 2");
        x.go(2);
        CHECK.same("waits: PLACE of its next STEP, behind the last one", told(x), "2 6 2 -1 0 0 0 4");
        x.interrupt(0);
        CHECK.same("goes on: the CALL is over", told(x), "1 5 2 1 1 0 0 4");
        x.go(1);
        CHECK.same("ENDED", told(x), "0 -1 -1 -1 1 0 0 5");
        Halls.program(x, 7, 35, 0, 0, 0, 0, 0);
        x.begin(7, 1);
        x.go(1);
        CHECK.same("PERMIT", x.thread(1, 5), 1);
        CHECK.bad("what -1", () -> x.thread(0, -1));
        CHECK.bad("what 8", () -> x.thread(0, 8));
        CHECK.bad("THREAD -1", () -> x.thread(-1, 0));
        CHECK.bad("THREAD 2", () -> x.thread(2, 0));
    }

    private static String told(TurnHall x) {
        StringBuilder text = new StringBuilder();
        for (int what = 0; what < 8; what++) {
            text.append(what == 0 ? "" : " ").append(x.thread(0, what));
        }
        return text.toString();
    }

    private static void registers() {
        TurnHall x = new TurnHall(100);
        CHECK.bad("register of none", () -> x.register(0, 0));
        Halls.program(x, 0, 1, 1, Long.MAX_VALUE, 1, 2, -5, 1, 3, 6);
        x.begin(0, 4);
        x.go(9);
        CHECK.same("R[0]", x.register(0, 0), 4);
        CHECK.same("R[1]", x.register(0, 1), Long.MAX_VALUE);
        CHECK.same("R[2]", x.register(0, 2), -5);
        CHECK.same("R[3]", x.register(0, 3), 6);
        CHECK.bad("R[-1]", () -> x.register(0, -1));
        CHECK.bad("R[4]", () -> x.register(0, 4));
        CHECK.bad("THREAD -1", () -> x.register(-1, 0));
        CHECK.bad("THREAD 1", () -> x.register(1, 0));
    }

    private static void notes() {
        TurnHall x = new TurnHall(100);
        CHECK.same("none", x.note(0, false), -1);
        Halls.program(x, 0, 12, 0, 0, 7, 0, 0, 5, 0, 0);
        x.begin(1, 0);
        x.begin(0, Long.MIN_VALUE + 2);
        x.go(3 * 4095);
        CHECK.same("4095 notes", x.note(4094, false), 1);
        CHECK.same("not yet", x.note(4095, false), -1);
        x.go(9);
        CHECK.same("ever", x.count(4), 4098);
        CHECK.same("the first", x.note(0, true), Long.MIN_VALUE + 2);
        CHECK.same("around", x.note(3, true), Long.MAX_VALUE);
        CHECK.same("the last kept", x.note(4095, true), Long.MIN_VALUE + 2 - 4095);
        CHECK.same("the last kept", x.note(4095, false), 1);
        CHECK.same("not kept", x.note(4096, false), -1);
        CHECK.same("not kept", x.note(4096, true), -1);
        CHECK.same("before the first", x.note(-1, true), -1);
        CHECK.same("far", x.note(Integer.MIN_VALUE, true) + x.note(Integer.MAX_VALUE, false), -2);
    }

    private static void counts() {
        TurnHall x = new TurnHall(2);
        Halls.program(x, 0, 12, 0, 0, 12, 0, 0, 11, 1, 0);
        Halls.program(x, 1, 20, 0, 0, 0, 0, 0);
        x.begin(0, 0);
        x.begin(1, 3);
        x.begin(0, 0);
        x.schedule(0, 3);
        x.schedule(1, 1);
        x.schedule(2, 1);
        x.go(5);
        x.tick(2);
        int[] due = {3, 1, 1, 5, 3, 0, 1, 2};
        for (int what = 0; what < 8; what++) {
            CHECK.same("count " + what, x.count(what), due[what]);
        }
        CHECK.bad("count(-1)", () -> x.count(-1));
        CHECK.bad("count(8)", () -> x.count(8));
    }

    private static void whatThrowsChangesNothing() {
        TurnHall x = new TurnHall(3);
        x.parties(2, 2);
        Halls.program(x, 0, 12, 0, 0, 14, 0, 0, 32, 2, 1);
        Halls.program(x, 1, 14, 0, 0);
        x.begin(0, 0);
        x.begin(1, 0);
        x.go(100);
        x.schedule(0, 3);
        String before = Halls.all(x);
        CHECK.refused("parties", () -> x.parties(2, 1));
        CHECK.refused("drop", () -> x.drop(0));
        int[] far = {-1, 64, 1000001, Integer.MIN_VALUE, Integer.MAX_VALUE};
        for (int no : far) {
            CHECK.bad("put", () -> x.put(no, 0, 0, 0));
            CHECK.bad("drop", () -> x.drop(no));
            CHECK.bad("begin", () -> x.begin(no, 0));
            CHECK.bad("schedule", () -> x.schedule(no, 1));
            CHECK.bad("supply", () -> x.supply(no, 1));
            CHECK.bad("parties", () -> x.parties(no, 1));
            CHECK.bad("set", () -> x.set(no, 1));
            CHECK.bad("cell", () -> x.cell(no));
            CHECK.bad("state", () -> x.state(no));
            CHECK.bad("thread", () -> x.thread(no, 0));
            CHECK.bad("thread", () -> x.thread(0, no));
            CHECK.bad("register", () -> x.register(no, 0));
            CHECK.bad("register", () -> x.register(0, no));
            CHECK.bad("monitor", () -> x.monitor(no, 0));
            CHECK.bad("monitor", () -> x.monitor(0, no));
            CHECK.bad("lock", () -> x.lock(no, 0));
            CHECK.bad("lock", () -> x.lock(0, no));
            CHECK.bad("semaphore", () -> x.semaphore(no, 0));
            CHECK.bad("semaphore", () -> x.semaphore(0, no));
            CHECK.bad("barrier", () -> x.barrier(no, 0));
            CHECK.bad("barrier", () -> x.barrier(0, no));
            CHECK.bad("ring", () -> x.ring(no));
            CHECK.bad("interrupt", () -> x.interrupt(no));
            CHECK.bad("count", () -> x.count(no));
        }
        CHECK.same("nothing is changed", Halls.all(x), before);
    }
}
