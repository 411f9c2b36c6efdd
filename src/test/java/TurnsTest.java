/** Promises 5 and 6: schedule and go, and who has the turns. */
public final class TurnsTest {
    private static final Check CHECK = new Check("TurnsTest");

    public static void main(String[] args) {
        scheduleAndItsEdges();
        scheduleIsFollowed();
        notReadyIsPassedOver();
        turnsAround();
        turnsEndBefore();
        turnOutlivesGo();
        goTells();
        stepsOfFlow();
        CHECK.finish();
    }

    /** Two STEPS for ever: a note and a jump. */
    private static TurnHall noters(int quantum, int threads) {
        TurnHall x = new TurnHall(quantum);
        Halls.program(x, 0, 12, 0, 0, 5, 0, 0);
        for (int t = 0; t < threads; t++) {
            x.begin(0, t);
        }
        return x;
    }

    private static void scheduleAndItsEdges() {
        TurnHall x = noters(1, 2);
        CHECK.bad("THREAD -1", () -> x.schedule(-1, 1));
        CHECK.bad("THREAD 2", () -> x.schedule(2, 1));
        CHECK.bad("0 STEPS", () -> x.schedule(0, 0));
        CHECK.bad("1001 STEPS", () -> x.schedule(0, 1001));
        for (int i = 1; i <= 256; i++) {
            CHECK.same("how many it has", x.schedule(i & 1, 1000), i);
        }
        CHECK.refused("the 257th", () -> x.schedule(0, 1));
        CHECK.bad("the argument is looked at first", () -> x.schedule(0, 0));
        CHECK.same("count 5", x.count(5), 256);
        x.go(1001);
        CHECK.same("1 does 1000 STEPS", x.thread(1, 7), 1000);
        CHECK.same("0 begins", x.thread(0, 7), 1);
        CHECK.same("two turns are taken", x.count(5), 254);
        CHECK.same("there is room again", x.schedule(0, 1), 255);
        CHECK.same("one of an ENDED THREAD", scheduleOfEnded(), 1);
    }

    private static long scheduleOfEnded() {
        TurnHall x = new TurnHall(1);
        x.begin(0, 0);
        return x.schedule(0, 1);
    }

    private static void scheduleIsFollowed() {
        TurnHall x = noters(2, 3);
        x.schedule(2, 4);
        x.schedule(0, 2);
        x.schedule(2, 2);
        CHECK.same("go", x.go(8), 2);
        CHECK.same("by THE SCHEDULE", Halls.notes(x), "2:2 2:2 0:0 2:2");
        x.go(2);
        CHECK.same("then behind the last one", x.note(4, false), 0);
    }

    private static void notReadyIsPassedOver() {
        TurnHall x = new TurnHall(1);
        Halls.program(x, 0, 34, 0, 0);
        Halls.program(x, 1, 12, 0, 0, 12, 0, 0);
        x.begin(0, 0);
        x.begin(1, 0);
        x.begin(2, 0);
        x.schedule(0, 5);
        x.schedule(0, 5);
        x.schedule(2, 5);
        x.schedule(1, 1);
        x.schedule(2, 1);
        CHECK.same("the first STEP", x.go(1), 2);
        CHECK.same("THE SCHEDULE waits for the next STEP", x.count(5), 4);
        x.go(1);
        CHECK.same("three are passed over", x.count(5), 1);
        CHECK.same("1 did one", x.thread(1, 7), 1);
        CHECK.same("none is READY", x.go(9), 3);
        CHECK.same("passed over before 3", x.count(5), 0);
        x.schedule(2, 1);
        CHECK.same("3 before the first STEP", x.go(9), 3);
        CHECK.same("passed over before 3", x.count(5), 0);
        x.schedule(2, 1);
        x.interrupt(0);
        x.schedule(0, 1);
        CHECK.same("1", x.go(1), 1);
        CHECK.same("passed over before 1", x.count(5), 0);
        CHECK.same("passed over before 1 with n done", lastStepEndsAll(), 10);
    }

    private static long lastStepEndsAll() {
        TurnHall x = new TurnHall(1);
        Halls.program(x, 0, 0, 0, 0);
        x.begin(0, 0);
        x.schedule(0, 1);
        x.schedule(0, 1);
        return x.go(1) * 10 + x.count(5);
    }

    private static void turnsAround() {
        TurnHall x = noters(2, 3);
        x.go(14);
        CHECK.same("around", Halls.notes(x), "0:0 1:1 2:2 0:0 1:1 2:2 0:0");
        TurnHall y = noters(2, 3);
        y.schedule(1, 2);
        y.go(6);
        CHECK.same("behind the one of THE SCHEDULE", Halls.notes(y), "1:1 2:2 0:0");
        TurnHall z = noters(2, 1);
        z.go(4);
        CHECK.same("a lone one again", Halls.notes(z), "0:0 0:0");
    }

    private static void turnsEndBefore() {
        TurnHall x = new TurnHall(10);
        Halls.program(x, 0, 12, 0, 0, 13, 0, 0, 12, 0, 0, 34, 1, 0);
        Halls.program(x, 1, 12, 0, 0);
        Halls.program(x, 2, 10, 2, 0, 11, 5, 0, 12, 3, 0, 11, 6, 0);
        x.begin(0, 10);
        x.begin(1, 11);
        x.begin(2, 12);
        CHECK.same("go", x.go(100), 3);
        CHECK.same("yields, ends, a FAULT that is caught goes on", Halls.notes(x), "0:10 1:11 2:5 0:10");
        CHECK.same("STEPS ever", x.count(3), 9);
        TurnHall y = new TurnHall(10);
        Halls.program(y, 0, 13, 0, 0, 12, 0, 0, 5, 0, 0);
        y.begin(0, 0);
        y.begin(0, 1);
        y.schedule(0, 100);
        y.go(4);
        CHECK.same("a yield ends the turn of THE SCHEDULE", Halls.notes(y), "0:0");
        CHECK.same("a yield ends the turn of THE SCHEDULE", y.thread(1, 7), 1);
    }

    private static void turnOutlivesGo() {
        TurnHall x = noters(5, 2);
        x.go(3);
        CHECK.same("schedule meanwhile", x.schedule(0, 1), 1);
        x.go(1);
        CHECK.same("0 goes on", x.thread(0, 7), 4);
        CHECK.same("THE SCHEDULE waits", x.count(5), 1);
        x.go(2);
        CHECK.same("0 has QUANTUM and its one", x.thread(0, 7), 6);
        x.go(4);
        CHECK.same("then 1", x.thread(1, 7), 4);
    }

    private static void goTells() {
        TurnHall x = new TurnHall(1);
        CHECK.same("there are none", x.go(1), 1);
        CHECK.bad("go(0)", () -> x.go(0));
        CHECK.bad("go(-1)", () -> x.go(-1));
        CHECK.bad("go(20001)", () -> x.go(20001));
        Halls.program(x, 0, 5, 0, 0);
        Halls.program(x, 1, 34, 0, 0);
        Halls.program(x, 2, 0, 0, 0, 0, 0, 0);
        x.begin(2, 0);
        CHECK.same("n were done", x.go(1), 2);
        CHECK.same("all have ENDED comes before n were done", x.go(1), 1);
        CHECK.same("all have ENDED", x.go(20000), 1);
        x.begin(1, 0);
        CHECK.same("n were done comes before none is READY", x.go(1), 2);
        CHECK.same("none is READY", x.go(1), 3);
        x.begin(0, 0);
        CHECK.same("20000 STEPS", x.go(20000), 2);
        CHECK.same("20000 STEPS", x.thread(2, 7), 20000);
        CHECK.same("a STEP that begins to wait is one", x.thread(1, 7), 1);
        x.interrupt(1);
        CHECK.same("going on from it is none", x.thread(1, 7), 1);
        CHECK.same("one that waited behind its last STEP has ENDED", x.state(1), 9);
    }

    private static void stepsOfFlow() {
        TurnHall x = new TurnHall(1000);
        Halls.program(x, 0, 1, 1, 3, 12, 1, 0, 7, 1, 0, 6, 1, 1, 12, 1, 0, 8, 1, 0, 12, 2, 0, 5, 9, 0, 12, 3, 0);
        Halls.program(x, 1, 1, 2, 8, 2, 2, 2, 9, 0, 0, 12, 3, 0);
        x.begin(0, 0);
        CHECK.same("go", x.go(1000), 1);
        CHECK.same("notes", Halls.notes(x), "0:3 0:2 0:1 0:0 0:16");
        CHECK.same("STEPS: behind the last one is none", x.thread(0, 7), 17);
        TurnHall y = new TurnHall(1000);
        Halls.program(y, 0, 8, 1, 0, 8, 2, 0);
        Halls.program(y, 2, 8, 3, 0);
        Halls.program(y, 3, 12, 0, 0);
        y.begin(0, 4);
        y.go(1);
        CHECK.same("the CALL of an empty one is over at once", y.thread(0, 0), 1);
        y.go(2);
        CHECK.same("three CALLS", y.thread(0, 0), 3);
        CHECK.same("all return behind the last STEP", y.go(1), 1);
        CHECK.same("STEPS", y.thread(0, 7), 4);
    }
}
