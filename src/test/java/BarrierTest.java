/** Promises 10 and 19: parties and barrier, and STEPS 32 and 33. */
public final class BarrierTest {
    private static final Check CHECK = new Check("BarrierTest");

    public static void main(String[] args) {
        ranges();
        allGoOn();
        oneParty();
        breaksByTime();
        mends();
        CHECK.finish();
    }

    private static String told(TurnHall x, int y) {
        StringBuilder text = new StringBuilder();
        for (int what = 0; what < 4; what++) {
            text.append(what == 0 ? "" : " ").append(x.barrier(y, what));
        }
        return text.toString();
    }

    private static void ranges() {
        TurnHall x = new TurnHall(1);
        CHECK.same("new", told(x, 7), "1 0 0 0");
        CHECK.bad("parties(-1)", () -> x.parties(-1, 1));
        CHECK.bad("parties(8)", () -> x.parties(8, 1));
        CHECK.bad("0 PARTIES", () -> x.parties(0, 0));
        CHECK.bad("65 PARTIES", () -> x.parties(0, 65));
        CHECK.bad("barrier(-1)", () -> x.barrier(-1, 0));
        CHECK.bad("barrier(8)", () -> x.barrier(8, 0));
        CHECK.bad("what -1", () -> x.barrier(0, -1));
        CHECK.bad("what 4", () -> x.barrier(0, 4));
        CHECK.same("64", x.parties(7, 64), 0);
        CHECK.same("64", told(x, 7), "64 0 0 0");
        CHECK.same("1", x.parties(7, 1), 0);
        CHECK.same("1", told(x, 7), "1 0 0 0");
        CHECK.same("below 0", Halls.faultOf(-1, 32, 0, 0), 3);
    }

    private static void allGoOn() {
        TurnHall x = new TurnHall(100);
        x.parties(3, 3);
        Halls.program(x, 0, 32, 3, 1, 12, 0, 0, 5, 0, 0);
        x.begin(0, 9);
        x.begin(0, 9);
        x.go(100);
        CHECK.same("two wait", told(x, 3), "3 2 0 0");
        CHECK.same("state", x.state(0), 7);
        CHECK.refused("one waits there", () -> x.parties(3, 2));
        CHECK.bad("the argument is looked at first", () -> x.parties(3, 0));
        x.begin(0, 9);
        x.go(1);
        CHECK.same("all go on", told(x, 3), "3 0 0 1");
        CHECK.same("how many came behind it", x.register(0, 0) * 100 + x.register(1, 0) * 10 + x.register(2, 0), 210);
        CHECK.same("they are READY", x.count(1), 3);
        x.go(100 * 3);
        CHECK.same("and again", x.barrier(3, 2), 0);
        CHECK.same("whole rounds", x.barrier(3, 3) > 10 ? 1 : 0, 1);
        TurnHall y = new TurnHall(1);
        y.parties(0, 64);
        Halls.program(y, 0, 32, 0, 1);
        for (int t = 0; t < 64; t++) {
            y.begin(0, -1);
        }
        CHECK.same("64 of them", y.go(64), 1);
        CHECK.same("first and last", y.register(0, 0) * 100 + y.register(63, 0), 6300);
        CHECK.same("no FAULT", y.count(6), 0);
    }

    private static void oneParty() {
        TurnHall x = new TurnHall(100);
        Halls.program(x, 0, 32, 0, 0, 32, 0, 0);
        x.begin(0, 9);
        CHECK.same("goes on at once", x.go(9), 1);
        CHECK.same("R[0]", x.register(0, 0), 0);
        CHECK.same("twice", told(x, 0), "1 0 0 2");
    }

    private static void breaksByTime() {
        TurnHall x = new TurnHall(100);
        x.parties(0, 4);
        Halls.program(x, 0, 10, 2, 0, 32, 0, 0, 12, 3, 0, 32, 0, 1);
        x.begin(0, 0);
        x.begin(0, 5);
        x.begin(0, 7);
        x.go(100);
        CHECK.same("not yet", x.tick(4), 0);
        CHECK.same("by time", x.tick(1), 1);
        CHECK.same("broken", told(x, 0), "4 0 1 0");
        CHECK.same("FAULTS", x.register(0, 3) * 100 + x.register(1, 3) * 10 + x.register(2, 3), 474);
        CHECK.same("R[0] stays", x.register(1, 0), 5);
        x.go(100);
        CHECK.same("a broken one again", x.thread(0, 6) * 100 + x.thread(1, 6) * 10 + x.thread(2, 6), 444);
        CHECK.same("parties of a broken one", x.parties(0, 1), 0);
        CHECK.same("it stays broken", told(x, 0), "1 0 1 0");
    }

    private static void mends() {
        TurnHall x = new TurnHall(100);
        x.parties(0, 3);
        Halls.program(x, 0, 32, 0, 1);
        Halls.program(x, 1, 33, 0, 0);
        x.begin(0, 0);
        x.begin(0, 0);
        x.go(9);
        x.begin(1, 0);
        x.go(9);
        CHECK.same("those that wait have FAULT 4", x.thread(0, 6) * 10 + x.thread(1, 6), 44);
        CHECK.same("whole again", told(x, 0), "3 0 0 0");
        x.begin(0, 0);
        x.go(9);
        CHECK.same("one may wait again", told(x, 0), "3 1 0 0");
        x.interrupt(3);
        CHECK.same("broken", told(x, 0), "3 0 1 0");
        x.begin(1, 0);
        x.go(9);
        CHECK.same("whole again", told(x, 0), "3 0 0 0");
    }
}
