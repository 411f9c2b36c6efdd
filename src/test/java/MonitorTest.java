/** Promises 16 and 21: monitor and ring, and STEPS 14 to 19. */
public final class MonitorTest {
    private static final Check CHECK = new Check("MonitorTest");

    public static void main(String[] args) {
        ranges();
        enterAndExit();
        tries();
        waitAndNotice();
        noticeAll();
        notItsOwn();
        rings();
        ringOfJoins();
        CHECK.finish();
    }

    private static String told(TurnHall x, int m) {
        StringBuilder text = new StringBuilder();
        for (int what = 0; what < 6; what++) {
            text.append(what == 0 ? "" : " ").append(x.monitor(m, what));
        }
        return text.toString();
    }

    private static void ranges() {
        TurnHall x = new TurnHall(1);
        CHECK.same("new", told(x, 7), "-1 0 0 0 -1 -1");
        CHECK.bad("monitor(-1)", () -> x.monitor(-1, 0));
        CHECK.bad("monitor(8)", () -> x.monitor(8, 0));
        CHECK.bad("what -1", () -> x.monitor(0, -1));
        CHECK.bad("what 6", () -> x.monitor(0, 6));
        CHECK.bad("ring(0)", () -> x.ring(0));
        CHECK.bad("ring(-1)", () -> x.ring(-1));
    }

    private static void enterAndExit() {
        TurnHall x = new TurnHall(100);
        Halls.program(x, 0, 14, 7, 0, 14, 7, 0, 34, 1, 0, 15, 7, 0, 13, 0, 0, 15, 7, 0);
        Halls.program(x, 1, 14, 7, 0, 12, 0, 0, 15, 7, 0);
        x.begin(0, 0);
        x.begin(1, 0);
        x.begin(1, 0);
        x.go(100);
        CHECK.same("owned twice", told(x, 7), "0 2 2 0 1 -1");
        x.interrupt(0);
        x.go(2);
        CHECK.same("COUNT one less", told(x, 7), "0 1 2 0 1 -1");
        x.schedule(0, 1);
        x.go(1);
        CHECK.same("the first of ENTERING owns it", told(x, 7), "1 1 1 0 2 -1");
        CHECK.same("that one is READY", x.state(1), 0);
        x.go(100);
        CHECK.same("free again", told(x, 7), "-1 0 0 0 -1 -1");
        CHECK.same("notes", Halls.notes(x), "1:0 2:0");
    }

    private static void tries() {
        TurnHall x = new TurnHall(100);
        Halls.program(x, 0, 16, 0, 1, 16, 0, 2, 34, 3, 0);
        Halls.program(x, 1, 1, 1, 5, 16, 0, 1);
        x.begin(0, 0);
        x.begin(1, 0);
        x.go(100);
        CHECK.same("had it", x.register(0, 1) + x.register(0, 2), 2);
        CHECK.same("had it not", x.register(1, 1), 0);
        CHECK.same("COUNT", told(x, 0), "0 2 0 0 -1 -1");
    }

    private static void waitAndNotice() {
        TurnHall x = new TurnHall(100);
        Halls.program(x, 0, 14, 0, 0, 14, 0, 0, 14, 0, 0, 17, 0, 1, 12, 0, 0, 15, 0, 0, 15, 0, 0, 15, 0, 0);
        Halls.program(x, 1, 14, 0, 0, 18, 0, 0, 34, 1, 0, 15, 0, 0);
        x.begin(0, 10);
        x.begin(0, 11);
        x.go(100);
        CHECK.same("it gives the MONITOR up whole", told(x, 0), "-1 0 0 2 -1 0");
        x.begin(1, 0);
        x.go(100);
        CHECK.same("the first is noticed", told(x, 0), "2 1 1 1 0 1");
        CHECK.same("state", x.state(0) * 10 + x.state(1), 12);
        x.interrupt(2);
        x.go(1);
        CHECK.same("with the COUNT it had", told(x, 0), "0 3 0 1 -1 1");
        x.go(100);
        CHECK.same("the other waits on", told(x, 0), "-1 0 0 1 -1 1");
        CHECK.same("notes", Halls.notes(x), "0:10");
        CHECK.same("18 with nobody there", Halls.faultOf(0, 14, 0, 0, 18, 0, 0, 19, 0, 0), 0);
        TurnHall y = new TurnHall(100);
        Halls.program(y, 0, 14, 0, 0, 13, 0, 0, 17, 0, 1);
        Halls.program(y, 1, 14, 0, 0);
        y.begin(0, 0);
        y.begin(1, 0);
        y.go(100);
        CHECK.same("who waits hands it on", told(y, 0), "1 1 0 1 -1 0");
        TurnHall z = new TurnHall(100);
        Halls.program(z, 0, 14, 0, 0, 14, 0, 0, 17, 0, 0, 12, 0, 0);
        z.begin(0, 2);
        z.go(100);
        CHECK.same("by time", z.tick(2), 1);
        CHECK.same("it has it at once", told(z, 0), "0 2 0 0 -1 -1");
        CHECK.same("without FAULT", z.go(100) + z.thread(0, 6), 1);
    }

    private static void noticeAll() {
        TurnHall x = new TurnHall(100);
        Halls.program(x, 0, 14, 0, 0, 17, 0, 1, 12, 0, 0, 15, 0, 0);
        Halls.program(x, 1, 14, 0, 0, 19, 0, 0, 34, 1, 0, 15, 0, 0);
        x.schedule(x.begin(0, 10), 2);
        for (int t = 3; t > 0; t--) {
            x.begin(0, 10 + t);
        }
        x.schedule(3, 2);
        x.schedule(1, 2);
        x.schedule(2, 2);
        x.go(8);
        x.begin(1, 0);
        x.go(100);
        CHECK.same("all of them", told(x, 0), "4 1 4 0 0 -1");
        x.interrupt(4);
        x.go(100);
        CHECK.same("in order", Halls.notes(x), "0:10 3:11 1:13 2:12");
    }

    private static void notItsOwn() {
        for (int op : new int[] {15, 17, 18, 19}) {
            CHECK.same("FAULT 1 of " + op, Halls.faultOf(0, op, 0, 0), 1);
            CHECK.same("another MONITOR", Halls.faultOf(0, 14, 1, 0, op, 0, 0), 1);
            TurnHall x = new TurnHall(100);
            Halls.program(x, 0, 14, 0, 0, 34, 1, 0);
            Halls.program(x, 1, op, 0, 0);
            x.begin(0, 0);
            x.begin(1, 0);
            x.go(100);
            CHECK.same("FAULT 1 of " + op, x.thread(1, 6), 1);
            CHECK.same("the owner stays", told(x, 0), "0 1 0 0 -1 -1");
        }
        CHECK.same("FAULT 3 before FAULT 1", Halls.faultOf(-1, 17, 0, 0), 3);
    }

    private static void rings() {
        TurnHall x = new TurnHall(1);
        for (int p = 0; p < 4; p++) {
            Halls.program(x, p, 14, p, 0, 0, 0, 0, 14, p + 1, 0);
        }
        Halls.program(x, 4, 14, 4, 0, 0, 0, 0, 14, 0, 0);
        Halls.program(x, 5, 0, 0, 0, 0, 0, 0, 14, 0, 0);
        for (int p = 0; p < 6; p++) {
            x.begin(p, 0);
        }
        CHECK.same("READY", x.ring(0), 0);
        CHECK.same("go", x.go(100), 3);
        for (int t = 0; t < 5; t++) {
            CHECK.same("a ring of five", x.ring(t), 5);
        }
        CHECK.same("outside of it", x.ring(5), 0);
        CHECK.bad("ring(6)", () -> x.ring(6));
        TurnHall y = new TurnHall(1);
        Halls.program(y, 0, 14, 0, 0);
        Halls.program(y, 1, 0, 0, 0, 14, 0, 0);
        y.begin(0, 0);
        y.begin(1, 0);
        y.go(100);
        CHECK.same("the owner has ENDED", y.ring(1) * 10 + y.ring(0), 0);
        CHECK.same("it waits", y.state(1), 1);
    }

    private static void ringOfJoins() {
        TurnHall x = new TurnHall(100);
        Halls.program(x, 0, 22, 0, 1);
        x.begin(0, 0);
        x.go(100);
        CHECK.same("joins itself", x.ring(0), 1);
        x.begin(0, 2);
        x.begin(0, 1);
        x.begin(0, 2);
        x.go(100);
        CHECK.same("two", x.ring(1) * 10 + x.ring(2), 22);
        CHECK.same("none", x.ring(3), 0);
        TurnHall y = new TurnHall(100);
        Halls.program(y, 0, 14, 0, 0, 13, 0, 0, 22, 0, 1);
        Halls.program(y, 1, 14, 0, 0);
        y.begin(0, 1);
        y.begin(1, 0);
        y.go(100);
        CHECK.same("a join and a MONITOR", y.ring(0) * 10 + y.ring(1), 22);
        TurnHall z = new TurnHall(1);
        Halls.program(z, 0, 22, 0, 1);
        for (int t = 0; t < 64; t++) {
            z.begin(0, (t + 1) % 64);
        }
        z.go(100);
        CHECK.same("all of them", z.ring(0) * 100 + z.ring(63), 6464);
        z.interrupt(5);
        CHECK.same("a chain of joins that ends at once", z.count(2), 64);
    }
}
