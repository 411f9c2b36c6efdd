/** Where two sentences of the document meet in one run of calls; each check names the words that meet. */
public final class MeetTest {
    private static final Check CHECK = new Check("MeetTest");

    public static void main(String[] args) {
        handlerOfAnOuterCall();
        handlerWentByTheFirstFault();
        handlerWithTheMonitor();
        endedWithTheMonitor();
        endedOneIsJoined();
        eachFaultOfABarrier();
        brokenInOrder();
        faultIsNoStep();
        twoDueAtOneMonitor();
        dueBehindThoseEntering();
        dueAtOneBarrier();
        dueJoinAndSleep();
        dueInDifferentThings();
        noticedThenInterrupted();
        interruptedThenNoticed();
        noticeGoesToTheNext();
        interruptedTwice();
        timeAndInterruption();
        noticedAndDue();
        noticeAllWithInterrupted();
        turnEndsByWaiting();
        turnDoesNotComeBack();
        turnGoesOnBehindAFault();
        turnGoesOnWhereNobodyWaits();
        turnAndScheduleMeet();
        permitAndMark();
        shareOfOneSentAway();
        ringOfBoth();
        dropAndFaults();
        putBehindOneThatWaits();
        thrownInTheMiddle();
        CHECK.finish();
    }

    private static void handlerOfAnOuterCall() {
        CHECK.sentence("of the CALLS from the innermost on the first with a HANDLER goes on there (those within it are"
            + " left; the HANDLER is none then; REGISTER 3 becomes the FAULT's number)");
        TurnHall x = Halls.with(100, 10, 3, 0, 8, 1, 0, 0, 0, 0, 12, 3, 0);
        Halls.program(x, 1, 8, 2, 0);
        Halls.program(x, 2, 1, 1, 40, 20, 1, 0, 12, 1, 0);
        Halls.run(x, 0);
        CHECK.same("it sleeps three CALLS deep, behind its STEP", Halls.thread(x, 0), "3 2 2 -1 0 0 0 5");
        CHECK.refused("a CALL of PROGRAM 2", () -> x.drop(2));
        CHECK.same("interrupted", x.interrupt(0), 0);
        CHECK.same("one CALL, at its HANDLER, which is none then", Halls.thread(x, 0), "1 0 3 -1 0 0 0 5");
        CHECK.same("REGISTER 3", x.register(0, 3), 2);
        CHECK.same("PROGRAM 2 is free", x.drop(2), 3);
        CHECK.same("PROGRAM 1 is free", x.drop(1), 1);
        CHECK.same("its time does not come any more", x.tick(40), 0);
        CHECK.same("it ends", x.go(9), 1);
        CHECK.same("at the HANDLER it noted", Halls.notes(x), "0:2");
        CHECK.same("one FAULT", x.count(6), 1);
    }

    private static void handlerWentByTheFirstFault() {
        TurnHall x = Halls.with(100, 10, 1, 0, 20, 1, 0, 20, 1, 0);
        Halls.run(x, 0);
        CHECK.same("the HANDLER is there while it sleeps", x.thread(0, 3), 1);
        CHECK.same("the first interruption is caught", x.interrupt(0), 0);
        x.go(9);
        CHECK.same("it sleeps again, by the same STEP", Halls.thread(x, 0), "1 0 2 -1 0 0 0 3");
        CHECK.same("the second is not", x.interrupt(0), 10);
        CHECK.same("ENDED by it", Halls.thread(x, 0), "0 -1 -1 -1 0 0 2 3");
        CHECK.same("two FAULTS", x.count(6), 2);
        CHECK.same("REGISTER 3 is the first one's", x.register(0, 3), 2);
    }

    private static void handlerWithTheMonitor() {
        CHECK.sentence("interrupted: FAULT 2 when it has it");
        TurnHall x = Halls.with(100, 10, 5, 0, 14, 3, 0, 14, 3, 0, 17, 3, 0, 12, 0, 0, 15, 3, 0, 15, 3, 0, 12, 3, 0);
        Halls.program(x, 1, 14, 3, 0, 34, 0, 0, 15, 3, 0);
        Halls.run(x, 0, 1);
        CHECK.same("1 owns it, 0 waits", Halls.monitor(x, 3), "1 1 0 1 -1 0");
        CHECK.same("interrupted, it asks for the MONITOR", x.interrupt(0), 1);
        CHECK.same("in ENTERING", Halls.monitor(x, 3), "1 1 1 0 0 -1");
        CHECK.same("no FAULT yet", x.count(6), 0);
        CHECK.same("its HANDLER is there yet", x.thread(0, 3), 5);
        x.interrupt(1);
        x.go(2);
        CHECK.same("with the COUNT it had, exited once", Halls.monitor(x, 3), "0 1 0 0 -1 -1");
        CHECK.same("the FAULT", x.count(6), 1);
        CHECK.same("all end", x.go(9), 1);
        CHECK.same("noted at the HANDLER", Halls.notes(x), "0:2");
        CHECK.same("nobody's", Halls.monitor(x, 3), "-1 0 0 0 -1 -1");
    }

    private static void endedWithTheMonitor() {
        CHECK.sentence("What it holds it keeps");
        TurnHall x = Halls.with(100, 14, 0, 0, 14, 0, 0, 17, 0, 0);
        Halls.program(x, 1, 14, 0, 0, 34, 0, 0, 15, 0, 0);
        Halls.program(x, 2, 14, 0, 0, 12, 0, 0);
        Halls.run(x, 0, 1);
        x.interrupt(0);
        Halls.run(x, 2);
        CHECK.same("0 and 2 are ENTERING", Halls.monitor(x, 0), "1 1 2 0 0 -1");
        x.interrupt(1);
        CHECK.same("2 has to wait for ever", x.go(99), 3);
        CHECK.same("0 has ENDED by FAULT 2 and owns it twice", Halls.monitor(x, 0), "0 2 1 0 2 -1");
        CHECK.same("states", Halls.states(x), "10 9 1");
        CHECK.same("no ring with one that has ENDED", x.ring(2), 0);
        CHECK.same("at once, where nobody owns it", interruptedAtAFreeMonitor(), "10 0 1");
    }

    private static String interruptedAtAFreeMonitor() {
        TurnHall x = Halls.with(100, 14, 0, 0, 17, 0, 0);
        Halls.run(x, 0);
        return x.interrupt(0) + " " + x.monitor(0, 0) + " " + x.monitor(0, 1);
    }

    private static void endedOneIsJoined() {
        CHECK.sentence("the outermost one's: the THREAD has ENDED (that of an empty PROGRAM at once, one that waits"
            + " when it goes on)");
        TurnHall x = Halls.with(100, 20, 1, 0);
        Halls.program(x, 1, 7, 0, 0, 22, 0, 1);
        Halls.program(x, 2, 22, 1, 1, 12, 0, 0);
        x.begin(0, 0);
        x.begin(1, 1);
        x.begin(1, 2);
        x.begin(2, 8);
        x.go(99);
        CHECK.same("0 sleeps, 1 joins 0, 2 joins 1, 3 joins 0", Halls.states(x), "3 4 4 4");
        CHECK.same("by FAULT", x.interrupt(0), 10);
        CHECK.same("1 and 2 were behind their last STEP", Halls.states(x), "10 9 9 0");
        CHECK.same("one FAULT", x.count(6), 1);
        CHECK.same("STEPS", x.count(3), 6);
        CHECK.same("3 goes on", x.go(9), 1);
        CHECK.same("its note", Halls.notes(x), "3:8");
    }

    /** Two THREADS at BARRIER 0 of three, with HANDLERS; the first one for 5 ticks, the second one without end. */
    private static TurnHall twoAtABarrier() {
        TurnHall x = Halls.with(100, 10, 2, 0, 32, 0, 0, 12, 3, 0);
        x.parties(0, 3);
        x.begin(0, 5);
        x.begin(0, 0);
        x.go(99);
        return x;
    }

    private static void eachFaultOfABarrier() {
        CHECK.sentence("By time: it breaks, the one whose time is over has FAULT 7 (ahead of the others), and so with"
            + " FAULT 2 one that is interrupted there");
        TurnHall byTime = twoAtABarrier();
        CHECK.same("not yet", byTime.tick(4), 0);
        CHECK.same("its time", byTime.tick(1), 1);
        byTime.go(99);
        CHECK.same("caught", Halls.notes(byTime), "0:7 1:4");
        CHECK.same("R[0] stays", byTime.register(0, 0) * 10 + byTime.register(1, 0), 50);
        TurnHall byMark = twoAtABarrier();
        CHECK.same("interrupted", byMark.interrupt(1), 0);
        CHECK.same("no MARK", byMark.thread(1, 4), 0);
        CHECK.same("broken", Halls.barrier(byMark, 0), "3 0 1 0");
        CHECK.same("none is due", byMark.tick(9), 0);
        byMark.schedule(1, 1);
        byMark.go(99);
        CHECK.same("caught", Halls.notes(byMark), "1:2 0:4");
        TurnHall byStep = twoAtABarrier();
        Halls.program(byStep, 1, 33, 0, 0);
        Halls.run(byStep, 1);
        CHECK.same("by 33 both have 4", Halls.notes(byStep), "0:4 1:4");
        CHECK.same("whole again", Halls.barrier(byStep, 0), "3 0 0 0");
    }

    private static void brokenInOrder() {
        CHECK.sentence("A BARRIER breaks: those that wait there have FAULT 4, in order");
        TurnHall x = twoAtABarrier();
        Halls.program(x, 1, 10, 2, 0, 32, 0, 0, 32, 0, 0);
        x.begin(1, 0);
        x.interrupt(2);
        x.go(99);
        CHECK.same("the third one came with its MARK, and again to the broken one", Halls.faults(x), "0 0 4");
        CHECK.same("its first FAULT was 2", x.register(2, 3), 2);
        CHECK.same("the others", Halls.notes(x), "0:4 1:4");
        CHECK.same("four FAULTS", x.count(6), 4);
        CHECK.same("all never went on", Halls.barrier(x, 0), "3 0 1 0");
        CHECK.same("parties() may change then", x.parties(0, 2), 0);
        CHECK.same("it is broken yet", Halls.barrier(x, 0), "2 0 1 0");
    }

    private static void faultIsNoStep() {
        CHECK.sentence("A FAULT while it waits is at its PLACE, no STEP");
        TurnHall x = Halls.with(1, 10, 2, 0, 20, 1, 0, 12, 0, 0, 5, 2, 0);
        Halls.program(x, 1, 12, 0, 0, 5, 0, 0);
        x.begin(1, 0);
        x.begin(1, 1);
        x.begin(0, 2);
        x.begin(1, 3);
        x.go(10);
        CHECK.same("2 sleeps, 1 did the last STEP", x.state(2) * 100 + x.count(3), 310);
        int notes = x.count(4);
        CHECK.same("it is caught", x.interrupt(2), 0);
        CHECK.same("STEPS", x.count(3) * 10 + x.thread(2, 7), 102);
        x.go(1);
        CHECK.same("the turns go around as if nothing had been: behind the last STEP's", x.note(notes, false), 2);
    }

    private static void twoDueAtOneMonitor() {
        CHECK.sentence("the earliest time first, of the same time what began to wait first");
        TurnHall x = Halls.with(100, 14, 0, 0, 17, 0, 0, 12, 0, 0, 15, 0, 0);
        x.begin(0, 7);
        x.begin(0, 6);
        x.begin(0, 7);
        x.go(99);
        CHECK.same("all are WAITING", Halls.monitor(x, 0), "-1 0 0 3 -1 0");
        CHECK.same("all are due", x.tick(7), 3);
        CHECK.same("1 has it, 0 and 2 are ENTERING", Halls.monitor(x, 0), "1 1 2 0 0 -1");
        CHECK.same("states", Halls.states(x), "1 0 1");
        CHECK.same("all end", x.go(99), 1);
        CHECK.same("in order", Halls.notes(x), "1:6 0:7 2:7");
    }

    private static void dueBehindThoseEntering() {
        CHECK.sentence("how many were due (their own time was over; also one that has to wait for its MONITOR then)");
        TurnHall x = Halls.with(100, 14, 0, 0, 17, 0, 0, 12, 0, 0, 15, 0, 0);
        Halls.program(x, 1, 14, 0, 0, 20, 0, 0, 12, 0, 0, 15, 0, 0);
        Halls.program(x, 2, 14, 0, 0, 12, 0, 0, 15, 0, 0);
        x.begin(0, 5);
        x.begin(1, 5);
        x.begin(2, 5);
        x.go(99);
        CHECK.same("1 owns it, 2 is ENTERING, 0 is WAITING", Halls.monitor(x, 0), "1 1 1 1 2 0");
        CHECK.same("0 and 1 are due", x.tick(5), 2);
        CHECK.same("0 comes behind 2", Halls.monitor(x, 0), "1 1 2 0 2 -1");
        x.go(99);
        CHECK.same("in order", Halls.notes(x), "1:5 2:5 0:5");
    }

    private static void dueAtOneBarrier() {
        CHECK.sentence("the one whose time is over has FAULT 7 (ahead of the others)");
        TurnHall x = Halls.with(100, 32, 0, 0);
        x.parties(0, 4);
        x.begin(0, 9);
        x.begin(0, 8);
        x.begin(0, 8);
        x.go(99);
        CHECK.same("one by its own time, which broke it for the others", x.tick(9), 1);
        CHECK.same("the earliest, of the same time what began to wait first", Halls.faults(x), "4 7 4");
        CHECK.same("none is left", Halls.barrier(x, 0), "4 0 1 0");
        CHECK.same("three FAULTS", x.count(6), 3);
    }

    private static void dueJoinAndSleep() {
        CHECK.sentence("how many were due (their own time was over; also one that has to wait for its MONITOR then)");
        CHECK.same("the join's time is first", dueJoinWithSleep(4, 5), "2 9 9");
        CHECK.same("the end of what it joined is first", dueJoinWithSleep(5, 4), "1 9 9");
        CHECK.same("only the sleep's", dueJoinWithSleep(7, 5), "1 9 9");
        CHECK.same("only the join's", dueJoinWithSleep(5, 7), "1 3 9");
    }

    /** THREAD 1 joins THREAD 0, which sleeps by its last STEP: what tick(6) tells, and the states. */
    private static String dueJoinWithSleep(int join, int sleep) {
        TurnHall x = Halls.with(100, 20, 0, 0);
        Halls.program(x, 1, 22, 1, 0);
        x.begin(0, sleep);
        x.begin(1, join);
        x.go(99);
        return x.tick(6) + " " + Halls.states(x);
    }

    private static void dueInDifferentThings() {
        CHECK.sentence("At a tick what is due (its time at or below THE CLOCK) is over");
        TurnHall x = Halls.with(100, 20, 0, 0, 12, 0, 0);
        Halls.program(x, 1, 34, 0, 0, 12, 0, 0);
        Halls.program(x, 2, 14, 0, 0, 17, 0, 0, 12, 0, 0);
        Halls.program(x, 3, 22, 1, 0, 12, 0, 0);
        Halls.program(x, 4, 10, 2, 0, 32, 0, 0, 12, 0, 0);
        x.parties(0, 2);
        for (int p = 0; p <= 4; p++) {
            x.begin(p, 10);
        }
        x.go(99);
        CHECK.same("all wait", Halls.states(x), "3 8 2 4 7");
        CHECK.same("below", x.tick(9), 0);
        CHECK.same("all are due", x.tick(1), 5);
        CHECK.same("all are READY", Halls.states(x), "0 0 0 0 0");
        CHECK.same("none is due again", x.tick(1000000), 0);
        CHECK.same("all end", x.go(99), 1);
        CHECK.same("one FAULT, caught", x.count(6) * 10 + x.register(4, 3), 17);
    }

    /** THREAD 0 WAITING at MONITOR 0 without end (HANDLER 3); THREAD 1 owns it, parked before 18 and 15. */
    private static TurnHall oneWaiting() {
        TurnHall x = Halls.with(100, 10, 3, 0, 14, 0, 0, 17, 0, 0, 24, 2, 0, 12, 2, 0, 12, 3, 0, 15, 0, 0);
        Halls.program(x, 1, 14, 0, 0, 34, 0, 0, 18, 0, 0, 34, 0, 0, 15, 0, 0);
        Halls.run(x, 0, 1);
        return x;
    }

    /** Lets THREAD 1 go on from where it is parked, without its MARK. */
    private static void unparkSecond(TurnHall x) {
        if (x.count(0) == 2) {
            Halls.program(x, 2, 35, 0, 0);
        }
        x.begin(2, 1);
        x.go(99);
    }

    private static void noticedThenInterrupted() {
        CHECK.sentence("READY, in 1 or 5 it has its MARK");
        TurnHall x = oneWaiting();
        unparkSecond(x);
        CHECK.same("noticed, it asks for the MONITOR", x.state(0), 1);
        CHECK.same("interrupted then", x.interrupt(0), 1);
        CHECK.same("its MARK", x.thread(0, 4), 1);
        unparkSecond(x);
        CHECK.same("the MARK, and no FAULT", Halls.notes(x), "0:1 0:0");
        CHECK.same("no FAULT ever", x.count(6), 0);
    }

    private static void interruptedThenNoticed() {
        CHECK.sentence("18 notice: not its owner: FAULT 1; the first of WAITING");
        TurnHall x = oneWaiting();
        CHECK.same("interrupted", x.interrupt(0), 1);
        CHECK.same("no MARK", x.thread(0, 4), 0);
        unparkSecond(x);
        CHECK.same("a notice finds nobody", Halls.monitor(x, 0), "1 1 1 0 0 -1");
        unparkSecond(x);
        CHECK.same("the FAULT, and no MARK", Halls.notes(x), "0:0 0:2");
        CHECK.same("one FAULT", x.count(6), 1);
    }

    private static void noticeGoesToTheNext() {
        TurnHall x = Halls.with(100, 14, 0, 0, 17, 0, 0, 12, 0, 0, 15, 0, 0);
        Halls.program(x, 1, 14, 0, 0, 1, 1, 0, 23, 1, 0, 18, 0, 0, 34, 2, 0, 15, 0, 0);
        Halls.run(x, 0, 0, 0);
        x.begin(1, 0);
        x.go(1);
        CHECK.same("three are WAITING", Halls.monitor(x, 0), "3 1 0 3 -1 0");
        x.go(9);
        CHECK.same("0 was interrupted, 1 noticed", Halls.monitor(x, 0), "3 1 2 1 0 2");
        CHECK.same("states", Halls.states(x), "1 1 2 8");
        x.interrupt(3);
        x.go(9);
        CHECK.same("0 has ENDED by FAULT 2 with the MONITOR, 1 stands behind it", Halls.monitor(x, 0), "0 1 1 1 1 2");
        CHECK.same("states", Halls.states(x), "10 1 2 9");
    }

    private static void interruptedTwice() {
        CHECK.sentence("interrupted: FAULT 2 when it has it");
        TurnHall x = oneWaiting();
        CHECK.same("interrupted", x.interrupt(0), 1);
        CHECK.same("again", x.interrupt(0), 1);
        CHECK.same("its MARK, by the second one", x.thread(0, 4), 1);
        unparkSecond(x);
        unparkSecond(x);
        CHECK.same("both", Halls.notes(x), "0:1 0:2");
    }

    private static void timeAndInterruption() {
        CHECK.sentence("Noticed, interrupted, or by time it leaves that and asks for the MONITOR with the COUNT it"
            + " had");
        TurnHall x = Halls.with(100, 14, 0, 0, 17, 0, 0, 12, 3, 0, 20, 1, 0);
        Halls.program(x, 1, 14, 0, 0, 34, 1, 0, 15, 0, 0);
        x.begin(0, 5);
        x.begin(0, 6);
        x.begin(1, 0);
        x.go(99);
        CHECK.same("one by time", x.tick(5), 1);
        CHECK.same("interrupted behind its time: a MARK", x.interrupt(0) * 10 + x.thread(0, 4), 11);
        CHECK.same("interrupted before its time: a FAULT", x.interrupt(1) * 10 + x.thread(1, 4), 10);
        CHECK.same("which has no time any more", x.tick(5), 0);
        x.interrupt(2);
        x.go(99);
        CHECK.same("0 met its MARK when it would sleep", Halls.monitor(x, 0), "0 1 1 0 1 -1");
        CHECK.same("FAULTS", Halls.faults(x), "2 0 0");
        CHECK.same("0 noted without a FAULT", Halls.notes(x), "0:0");
    }

    private static void noticedAndDue() {
        TurnHall x = Halls.with(100, 14, 0, 0, 17, 0, 0, 12, 0, 0, 15, 0, 0);
        Halls.program(x, 1, 14, 0, 0, 18, 0, 0, 34, 1, 0, 15, 0, 0);
        x.begin(0, 5);
        x.begin(0, 4);
        x.begin(1, 0);
        x.go(99);
        CHECK.same("0 was noticed, 1 is WAITING yet", Halls.monitor(x, 0), "2 1 1 1 0 1");
        CHECK.same("0 has no time any more", x.tick(9), 1);
        CHECK.same("1 comes behind it", Halls.monitor(x, 0), "2 1 2 0 0 -1");
        x.interrupt(2);
        x.go(99);
        CHECK.same("in order", Halls.notes(x), "0:5 1:4");
    }

    private static void noticeAllWithInterrupted() {
        CHECK.sentence("19: all of them, in order");
        TurnHall x = Halls.with(100, 14, 0, 0, 17, 0, 0, 12, 0, 0, 15, 0, 0);
        Halls.program(x, 1, 14, 0, 0, 1, 1, 2, 23, 1, 0, 19, 0, 0, 15, 0, 0);
        Halls.run(x, 0, 0, 0, 0);
        Halls.run(x, 1);
        CHECK.same("2, interrupted first, had it first, and keeps it", Halls.monitor(x, 0), "2 1 3 0 0 -1");
        CHECK.same("states", Halls.states(x), "1 1 10 1 9");
        CHECK.same("nobody noted", x.count(4), 0);
    }

    private static void turnEndsByWaiting() {
        CHECK.sentence("A turn ends before when its THREAD waits, ends, or yields");
        TurnHall x = Halls.with(3, 12, 0, 0, 34, 1, 0, 12, 0, 0, 12, 0, 0);
        Halls.program(x, 1, 35, 1, 0, 12, 0, 0, 12, 0, 0, 12, 0, 0);
        x.begin(0, 100);
        x.begin(1, 200);
        x.schedule(0, 9);
        x.go(99);
        CHECK.same("0 parks; 1 has its whole turn, though 0 goes on; then 0", Halls.notes(x),
            "0:100 1:200 1:200 0:100 0:100 1:200");
    }

    private static void turnDoesNotComeBack() {
        TurnHall x = Halls.with(1, 20, 1, 0, 5, 0, 0);
        Halls.program(x, 1, 12, 0, 0, 5, 0, 0);
        x.begin(0, 0);
        x.begin(1, 1);
        x.begin(1, 2);
        x.schedule(0, 5);
        CHECK.same("0 sleeps by the last STEP of this go()", x.go(1), 2);
        CHECK.same("its time", x.tick(1), 1);
        CHECK.same("it is READY", x.state(0), 0);
        x.go(2);
        CHECK.same("its turn is over: 1, and 2 behind it", Halls.notes(x), "1:1 2:2");
        CHECK.same("0 did one STEP", x.thread(0, 7), 1);
    }

    private static void turnGoesOnBehindAFault() {
        TurnHall x = Halls.with(4, 10, 2, 0, 11, 44, 0, 12, 3, 0, 12, 0, 0, 12, 0, 0);
        Halls.program(x, 1, 12, 0, 0);
        x.begin(0, 5);
        x.begin(1, 6);
        x.go(99);
        CHECK.same("a FAULT that is caught ends no turn", Halls.notes(x), "0:44 0:5 1:6 0:5");
    }

    private static void turnGoesOnWhereNobodyWaits() {
        CHECK.sentence("A STEP that begins to wait is a STEP; going on from it is none");
        TurnHall x = Halls.with(7, 14, 0, 0, 25, 0, 0, 29, 0, 1, 35, 0, 0, 34, 1, 0, 32, 0, 1, 22, 2, 1, 12, 0, 0);
        Halls.program(x, 1, 12, 0, 0);
        CHECK.same("an ended one, to be joined", x.begin(2, 0), 0);
        x.begin(0, 1);
        x.begin(1, 6);
        CHECK.same("seven STEPS", x.go(7), 2);
        CHECK.same("all by 1", x.thread(1, 7), 7);
        x.go(99);
        CHECK.same("the next turn is 2's", Halls.notes(x), "2:6 1:0");
    }

    private static void turnAndScheduleMeet() {
        CHECK.sentence("THE SCHEDULE (at most 256) says who does how many STEPS next");
        TurnHall x = Halls.with(4, 12, 0, 0, 5, 0, 0);
        x.begin(0, 0);
        x.begin(0, 1);
        x.begin(0, 2);
        x.go(1);
        CHECK.same("in the middle of 0's turn", x.schedule(2, 2), 1);
        x.go(3);
        CHECK.same("0 did its four STEPS", x.thread(0, 7), 4);
        x.go(2);
        CHECK.same("2 did its two", x.thread(2, 7), 2);
        x.go(1);
        CHECK.same("then behind 2 the turns go around", x.thread(0, 7), 5);
    }

    private static void permitAndMark() {
        CHECK.sentence("with its PERMIT (which goes) or MARK (which stays) it goes on");
        TurnHall x = Halls.with(100, 35, 0, 0, 34, 1, 0, 34, 1, 0, 20, 1, 0);
        x.begin(0, 0);
        x.interrupt(0);
        x.go(1);
        CHECK.same("MARK and PERMIT", x.thread(0, 4) * 10 + x.thread(0, 5), 11);
        x.go(1);
        CHECK.same("the PERMIT goes", x.thread(0, 4) * 10 + x.thread(0, 5), 10);
        x.go(1);
        CHECK.same("the MARK stays", x.state(0) * 100 + x.thread(0, 4) * 10 + x.thread(0, 5), 10);
        x.go(1);
        CHECK.same("till a sleep meets it", x.thread(0, 6) * 10 + x.thread(0, 4), 20);
    }

    private static void shareOfOneSentAway() {
        CHECK.sentence("those that wait have theirs from the front on, as long as there are so many (also when one that"
            + " waits is interrupted)");
        TurnHall x = Halls.with(100, 29, 0, 0, 12, 0, 0);
        x.supply(0, 5);
        x.begin(0, 6);
        x.begin(0, 2);
        x.begin(0, 4);
        x.begin(0, 3);
        x.go(99);
        CHECK.same("all wait behind the first", Halls.semaphore(x, 0), "5 4");
        CHECK.same("the first has FAULT 2", x.interrupt(0), 10);
        CHECK.same("1 has its two; 2 does not have its four, and 3 waits behind it", Halls.states(x), "10 0 6 6");
        CHECK.same("three are left", Halls.semaphore(x, 0), "3 2");
        CHECK.same("2 too", x.interrupt(2), 10);
        CHECK.same("3 has its three", Halls.states(x), "10 0 10 0");
        CHECK.same("nothing is left", Halls.semaphore(x, 0), "0 0");
    }

    private static void ringOfBoth() {
        CHECK.sentence("THREAD t waits in state 1 for a MONITOR's owner, or in 4 for a THREAD, that one again, and so"
            + " on till t comes again: how many they are");
        TurnHall x = Halls.with(100, 14, 0, 0, 13, 0, 0, 22, 0, 1);
        Halls.program(x, 1, 14, 0, 0);
        x.begin(0, 1);
        x.begin(1, 0);
        x.begin(1, 0);
        x.go(99);
        CHECK.same("0 joins 1, which waits for 0's MONITOR", x.ring(0) * 10 + x.ring(1), 22);
        CHECK.same("2 waits for it, too, but does not come again", x.ring(2), 0);
        x.interrupt(1);
        CHECK.same("an interruption leaves 1 there", x.ring(1), 2);
        x.interrupt(0);
        CHECK.same("0 has ENDED: no ring", x.ring(0) * 10 + x.ring(1), 0);
    }

    private static void dropAndFaults() {
        CHECK.sentence("a THREAD that has not ENDED has a CALL of it");
        TurnHall x = Halls.with(100, 8, 1, 0, 0, 0, 0);
        Halls.program(x, 1, 20, 1, 0);
        Halls.run(x, 0);
        CHECK.refused("one that sleeps behind its last STEP has its CALL", () -> x.drop(1));
        CHECK.refused("the outer one", () -> x.drop(0));
        x.tick(1);
        CHECK.same("it went on, and its CALL is over", x.thread(0, 0), 1);
        CHECK.same("PROGRAM 1", x.drop(1), 1);
        CHECK.refused("the outer one is not over", () -> x.drop(0));
        x.go(9);
        CHECK.same("it is now", x.drop(0), 2);
    }

    private static void putBehindOneThatWaits() {
        CHECK.sentence("PROGRAM p has one STEP more: its PLACE");
        TurnHall x = Halls.with(100, 20, 1, 0);
        Halls.run(x, 0);
        CHECK.same("behind the STEP by which it sleeps", x.put(0, 12, 1, 0), 1);
        x.tick(1);
        CHECK.same("it is not behind the last STEP any more", x.state(0), 0);
        CHECK.same("it ends behind the new one", x.go(9), 1);
        CHECK.same("which it did", Halls.notes(x), "0:0");
    }

    private static void thrownInTheMiddle() {
        CHECK.sentence("What throws changes nothing");
        TurnHall x = Halls.with(4, 12, 0, 0, 5, 0, 0);
        x.begin(0, 0);
        x.begin(0, 1);
        x.go(3);
        x.schedule(1, 1);
        String before = Halls.all(x);
        CHECK.bad("go(0)", () -> x.go(0));
        CHECK.bad("go(20001)", () -> x.go(20001));
        CHECK.bad("tick(0)", () -> x.tick(0));
        CHECK.bad("schedule(0, 1001)", () -> x.schedule(0, 1001));
        CHECK.bad("schedule(2, 1)", () -> x.schedule(2, 1));
        CHECK.bad("interrupt(2)", () -> x.interrupt(2));
        CHECK.bad("begin(16, 0)", () -> x.begin(16, 0));
        CHECK.refused("drop(0)", () -> x.drop(0));
        CHECK.same("all is as before", Halls.all(x), before);
        x.go(1);
        CHECK.same("0's turn has one STEP left", x.thread(0, 7) * 10 + x.thread(1, 7), 40);
        x.go(1);
        CHECK.same("then 1's of THE SCHEDULE", x.thread(0, 7) * 10 + x.thread(1, 7), 41);
    }
}
