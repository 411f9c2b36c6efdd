/** Term 2 at its edges: TURNS, THE SCHEDULE and THE CLOCK; each check names the document's words. */
public final class TurnEdgesTest {
    private static final Check CHECK = new Check("TurnEdgesTest");

    public static void main(String[] args) {
        atMost256();
        usedAround();
        passedOverInEachState();
        allOf256PassedOver();
        lookedAtWhenItIsNext();
        passedOverBefore1Or3();
        atFirstFrom0On();
        around();
        behindTheLastStep();
        quantumSteps();
        waitsEndsYields();
        goingOnIsNoStep();
        turnsOverSeveralGos();
        atOrBelowTheClock();
        timeFromWhenItBegan();
        earliestFirst();
        ofTheSameTime();
        CHECK.finish();
    }

    /** THREADS that note their number for ever, one note in two STEPS. */
    private static TurnHall noters(int quantum, int threads) {
        TurnHall x = Halls.with(quantum, 12, 0, 0, 5, 0, 0);
        for (int t = 0; t < threads; t++) {
            x.begin(0, t);
        }
        return x;
    }

    private static void atMost256() {
        CHECK.sentence("THE SCHEDULE (at most 256)");
        TurnHall x = noters(1, 1);
        for (int i = 1; i <= 256; i++) {
            CHECK.same("how many it has", x.schedule(0, 1), i);
        }
        CHECK.refused("a 257th", () -> x.schedule(0, 1));
        CHECK.same("it has 256", x.count(5), 256);
        x.go(1);
        CHECK.same("one is taken", x.count(5), 255);
        CHECK.same("there is room for one", x.schedule(0, 1), 256);
        CHECK.refused("and no more", () -> x.schedule(0, 1));
        x.go(256);
        CHECK.same("all are taken", x.count(5), 0);
        CHECK.same("from 1 again", x.schedule(0, 1), 1);
    }

    /** More than 256 in all, so that rows of 256 are used around. */
    private static void usedAround() {
        TurnHall x = noters(1, 3);
        for (int i = 0; i < 200; i++) {
            x.schedule(i * i % 3, 2);
        }
        x.go(2 * 150);
        CHECK.same("150 are taken", x.count(5), 50);
        for (int i = 200; i < 380; i++) {
            x.schedule(i * i % 3, 2);
        }
        CHECK.same("230 now", x.count(5), 230);
        x.go(2 * 230);
        int wrong = 0;
        for (int i = 300; i < 380; i++) {
            wrong += x.note(i, false) == i * i % 3 ? 0 : 1;
        }
        CHECK.same("in their order", wrong, 0);
        CHECK.same("380 turns", x.count(4), 380);
    }

    /** THREADS 0 to 9 in states 8, 1 to 7, 9 and 10, and a READY one. */
    private static TurnHall inEachState() {
        TurnHall x = Halls.with(100, 14, 0, 0, 26, 0, 0, 34, 1, 0);
        x.parties(0, 2);
        Halls.program(x, 1, 14, 0, 0);
        Halls.program(x, 2, 14, 1, 0, 17, 1, 1);
        Halls.program(x, 3, 1, 0, 1, 20, 0, 0);
        Halls.program(x, 4, 22, 1, 1);
        Halls.program(x, 5, 25, 0, 0);
        Halls.program(x, 6, 1, 0, 1, 29, 0, 0);
        Halls.program(x, 7, 32, 0, 1);
        Halls.program(x, 8, 0, 0, 0);
        Halls.program(x, 9, 11, 4, 0);
        Halls.program(x, 10, 13, 0, 0, 5, 0, 0);
        for (int p = 0; p <= 10; p++) {
            x.begin(p, 0);
        }
        x.go(30);
        return x;
    }

    private static void passedOverInEachState() {
        CHECK.sentence("what is at its front, if that THREAD is READY; else it is passed over");
        TurnHall x = inEachState();
        CHECK.same("states", Halls.states(x), "8 1 2 3 4 5 6 7 9 10 0");
        int before = x.thread(10, 7);
        for (int t = 0; t <= 10; t++) {
            x.schedule(t, 1);
        }
        x.schedule(0, 7);
        CHECK.same("twelve", x.count(5), 12);
        CHECK.same("one STEP", x.go(1), 2);
        CHECK.same("the READY one did it", x.thread(10, 7), before + 1);
        CHECK.same("ten are passed over, one is taken", x.count(5), 1);
        x.interrupt(3);
        x.go(1);
        CHECK.same("those that were passed over do not come again", x.count(5), 0);
    }

    private static void allOf256PassedOver() {
        TurnHall x = Halls.with(9, 34, 0, 0);
        Halls.program(x, 1, 5, 0, 0);
        Halls.run(x, 0);
        x.begin(1, 0);
        x.schedule(1, 1);
        for (int i = 1; i < 256; i++) {
            x.schedule(0, 1);
        }
        x.go(1);
        x.schedule(0, 1);
        CHECK.same("256 of one that is parked", x.count(5), 256);
        x.go(1);
        CHECK.same("all are passed over for one STEP", x.count(5), 0);
        CHECK.same("of the one that is READY", x.thread(0, 7) * 10 + x.thread(1, 7), 12);
    }

    private static void lookedAtWhenItIsNext() {
        TurnHall x = Halls.with(5, 34, 0, 0, 12, 0, 0, 12, 0, 0);
        Halls.program(x, 1, 13, 0, 0, 5, 0, 0);
        x.begin(0, 0);
        x.begin(1, 0);
        x.go(2);
        CHECK.same("0 is parked", x.state(0), 8);
        x.schedule(1, 1);
        x.schedule(0, 1);
        x.go(1);
        CHECK.same("not passed over before it is next", x.count(5), 1);
        x.interrupt(0);
        x.go(1);
        CHECK.same("READY by then: it has its turn", Halls.notes(x), "0:0");
    }

    private static void passedOverBefore1Or3() {
        CHECK.sentence("passed over (also before go() tells 1 or 3)");
        TurnHall x = Halls.with(1, 34, 0, 0, 0, 0, 0);
        x.begin(1, 0);
        x.schedule(0, 1);
        x.schedule(0, 2);
        CHECK.same("1 before the first STEP", x.go(1), 1);
        CHECK.same("passed over", x.count(5), 0);
        x.begin(0, 0);
        x.schedule(1, 1);
        x.schedule(1, 2);
        x.schedule(0, 2);
        CHECK.same("2", x.go(1), 2);
        CHECK.same("the others are not looked at yet", x.count(5), 2);
        CHECK.same("3 before the first STEP", x.go(1), 3);
        CHECK.same("passed over", x.count(5), 0);
        x.schedule(1, 9);
        x.interrupt(1);
        x.schedule(0, 9);
        CHECK.same("1 behind the last STEP", x.go(1), 1);
        CHECK.same("passed over", x.count(5), 0);
        TurnHall y = Halls.with(1, 34, 0, 0);
        y.begin(0, 0);
        y.schedule(0, 1);
        y.schedule(0, 1);
        CHECK.same("3 behind the last STEP", y.go(2), 3);
        CHECK.same("passed over", y.count(5), 0);
    }

    private static void atFirstFrom0On() {
        CHECK.sentence("the next READY THREAD by number behind the one that did the last STEP (around; at first from "
            + "0 on)");
        TurnHall x = noters(2, 2);
        x.go(1);
        CHECK.same("0 is the first", Halls.notes(x), "0:0");
        TurnHall y = Halls.with(2, 12, 0, 0, 5, 0, 0);
        y.begin(1, 0);
        y.begin(0, 1);
        y.begin(0, 2);
        y.go(1);
        CHECK.same("0 has ENDED: 1 is the first", Halls.notes(y), "1:1");
    }

    private static void around() {
        TurnHall x = noters(1, 64);
        x.schedule(63, 1);
        x.go(2);
        CHECK.same("0 behind 63", Halls.notes(x), "63:63 0:0");
        TurnHall y = noters(2, 1);
        y.go(6);
        CHECK.same("a lone one is behind itself", Halls.notes(y), "0:0 0:0 0:0");
        TurnHall z = Halls.with(2, 12, 0, 0, 5, 0, 0);
        Halls.program(z, 1, 34, 1, 0);
        z.begin(0, 0);
        z.begin(1, 0);
        z.begin(1, 0);
        z.begin(0, 3);
        z.schedule(1, 1);
        z.schedule(2, 1);
        z.go(8);
        CHECK.same("those between are not READY", Halls.notes(z), "3:3 0:0 3:3");
    }

    private static void behindTheLastStep() {
        TurnHall x = Halls.with(2, 12, 0, 0, 5, 0, 0);
        Halls.program(x, 1, 12, 0, 0);
        x.begin(0, 0);
        x.begin(1, 1);
        x.begin(0, 2);
        x.go(5);
        CHECK.same("behind one that has ENDED by it", Halls.notes(x), "0:0 1:1 2:2");
        x.begin(0, 3);
        x.go(4);
        CHECK.same("one that began meanwhile", Halls.notes(x), "0:0 1:1 2:2 3:3 0:0");
    }

    private static void quantumSteps() {
        CHECK.sentence("does QUANTUM STEPS");
        for (int quantum : new int[] {1, 2, 7, 1000}) {
            TurnHall x = Halls.with(quantum, 5, 0, 0);
            x.begin(0, 0);
            x.begin(0, 0);
            x.go(quantum);
            CHECK.same("the first has them, QUANTUM " + quantum, x.thread(0, 7), quantum);
            x.go(quantum);
            CHECK.same("then the next, QUANTUM " + quantum, x.thread(1, 7), quantum);
            x.go(1);
            CHECK.same("then the first again, QUANTUM " + quantum, x.thread(0, 7), quantum + 1);
        }
    }

    private static void waitsEndsYields() {
        CHECK.sentence("A turn ends before when its THREAD waits, ends, or yields");
        TurnHall x = Halls.with(9, 34, 0, 0, 5, 1, 0);
        Halls.program(x, 1, 5, 0, 0);
        x.begin(0, 0);
        x.begin(1, 0);
        x.schedule(0, 9);
        x.go(1);
        x.interrupt(0);
        x.go(9);
        CHECK.same("one that waited has lost the rest", x.thread(0, 7) * 100 + x.thread(1, 7), 109);
        TurnHall y = Halls.with(9, 0, 0, 0, 0, 0, 0);
        Halls.program(y, 1, 5, 0, 0);
        y.begin(0, 0);
        y.begin(1, 0);
        y.schedule(0, 9);
        y.go(9);
        CHECK.same("one that ends", y.thread(0, 7) * 100 + y.thread(1, 7), 207);
        TurnHall z = Halls.with(9, 0, 0, 0, 13, 0, 0, 5, 0, 0);
        z.begin(0, 0);
        z.begin(0, 0);
        z.go(5);
        CHECK.same("one that yields", z.thread(0, 7) * 100 + z.thread(1, 7), 302);
        z.schedule(0, 9);
        z.go(3);
        CHECK.same("THE SCHEDULE comes behind the turn", z.thread(0, 7) * 100 + z.thread(1, 7), 602);
        TurnHall w = Halls.with(9, 10, 1, 0, 11, 7, 0, 5, 2, 0);
        Halls.program(w, 1, 5, 0, 0);
        w.begin(0, 0);
        w.begin(1, 0);
        w.put(0, 0, 0, 0);
        w.go(2);
        CHECK.same("a FAULT that is caught ends no turn", w.thread(0, 7), 2);
    }

    private static void goingOnIsNoStep() {
        CHECK.sentence("A STEP that begins to wait is a STEP; going on from it is none");
        TurnHall x = Halls.with(9, 20, 0, 0, 34, 1, 0, 0, 0, 0);
        x.begin(0, 3);
        CHECK.same("one STEP was done", x.go(1), 2);
        CHECK.same("it waits by it", x.state(0), 3);
        CHECK.same("STEPS that it did", x.thread(0, 7), 1);
        x.tick(3);
        CHECK.same("READY again", x.state(0), 0);
        CHECK.same("no STEP more", x.thread(0, 7) * 10 + x.count(3), 11);
        CHECK.same("one STEP: it parks", x.go(1), 2);
        x.interrupt(0);
        CHECK.same("STEPS ever", x.count(3), 2);
        CHECK.same("one STEP is left", x.go(1), 1);
        CHECK.same("three in all", x.thread(0, 7) * 10 + x.count(3), 33);
    }

    /** No go() ends a turn: only what the sentence tells does. */
    private static void turnsOverSeveralGos() {
        CHECK.sentence("A turn ends before when its THREAD waits, ends, or yields");
        TurnHall x = noters(3, 2);
        x.go(2);
        x.go(1);
        CHECK.same("0 has its three", x.thread(0, 7) * 10 + x.thread(1, 7), 30);
        x.go(1);
        CHECK.same("then 1", x.thread(0, 7) * 10 + x.thread(1, 7), 31);
        x.schedule(0, 4);
        x.go(2);
        CHECK.same("1 has its three", x.thread(0, 7) * 10 + x.thread(1, 7), 33);
        x.go(3);
        x.tick(1);
        x.go(2);
        CHECK.same("then THE SCHEDULE's four of 0, then 1", x.thread(0, 7) * 10 + x.thread(1, 7), 74);
    }

    /** A THREAD that waits at MONITOR 1, sleeps, joins, comes to BARRIER 0 or parks, each for the ticks in R[0]. */
    private static final long[][] TIMED = {
        {14, 1, 0, 17, 1, 0}, {20, 0, 0}, {1, 1, 0, 22, 1, 0}, {32, 0, 0}, {34, 0, 0},
    };

    private static void atOrBelowTheClock() {
        CHECK.sentence("what is due (its time at or below THE CLOCK) is over");
        for (long[] steps : TIMED) {
            for (long ticks : new long[] {1, 2, 999999, 1000000}) {
                TurnHall x = Halls.with(9, 34, 1, 0);
                x.parties(0, 2);
                Halls.program(x, 1, steps);
                Halls.run(x, 0);
                x.begin(1, ticks);
                x.go(9);
                String what = "STEP " + steps[steps.length - 3] + " for " + ticks;
                int state = x.state(1);
                if (ticks > 1) {
                    CHECK.same(what + ": not one tick before", x.tick((int) ticks - 1), 0);
                    CHECK.same(what + ": it waits on", x.state(1), state);
                }
                CHECK.same(what + ": then", x.tick(1 + (ticks > 2 ? 0 : (int) ticks - 1)), 1);
                CHECK.same(what + ": behind its last STEP it has ENDED", x.state(1) >= 9 ? 1 : 0, 1);
                CHECK.same(what + ": once", x.tick(1000000), 0);
            }
        }
    }

    private static void timeFromWhenItBegan() {
        CHECK.sentence("THE CLOCK is 0 at first. At a tick what is due (its time at or below THE CLOCK) is over");
        TurnHall x = Halls.with(9, 20, 0, 0);
        CHECK.same("0 at first", x.count(7), 0);
        x.tick(1000000);
        x.begin(0, 5);
        x.go(9);
        CHECK.same("not yet", x.tick(4), 0);
        x.begin(0, 1);
        x.go(9);
        CHECK.same("both at 1000005", x.tick(1), 2);
        x.begin(0, 2);
        x.go(9);
        CHECK.same("far beyond", x.tick(1000000), 1);
        CHECK.same("THE CLOCK", x.count(7), 2000005);
    }

    private static void earliestFirst() {
        CHECK.sentence("the earliest time first, of the same time what began to wait first");
        TurnHall x = Halls.with(9, 14, 0, 0, 17, 0, 0);
        Halls.program(x, 1, 14, 0, 0, 34, 1, 0);
        x.begin(0, 30);
        x.begin(0, 10);
        x.begin(0, 20);
        x.go(9);
        Halls.run(x, 1);
        CHECK.same("all three", x.tick(30), 3);
        CHECK.same("1 is the first that asks", Halls.monitor(x, 0), "3 1 3 0 1 -1");
        TurnHall y = Halls.with(9, 32, 0, 0);
        y.parties(0, 4);
        y.begin(0, 3);
        y.begin(0, 2);
        y.begin(0, 3);
        y.go(9);
        CHECK.same("the BARRIER breaks by the earliest", y.tick(9), 1);
        CHECK.same("FAULTS", Halls.faults(y), "4 7 4");
    }

    private static void ofTheSameTime() {
        TurnHall x = Halls.with(9, 13, 0, 0, 14, 0, 0, 17, 0, 0);
        Halls.program(x, 1, 14, 0, 0, 34, 1, 0);
        x.begin(0, 2);
        x.begin(0, 5);
        x.schedule(1, 1);
        x.schedule(1, 2);
        x.go(3);
        x.tick(3);
        x.go(9);
        CHECK.same("both wait, 1 began first", Halls.monitor(x, 0), "-1 0 0 2 -1 1");
        Halls.run(x, 1);
        CHECK.same("both are due at 5", x.tick(2), 2);
        CHECK.same("1 asks first", Halls.monitor(x, 0), "2 1 2 0 1 -1");
        TurnHall y = Halls.with(9, 32, 0, 0);
        y.parties(0, 3);
        y.begin(0, 4);
        y.begin(0, 4);
        y.schedule(1, 1);
        y.go(9);
        CHECK.same("the BARRIER breaks once", y.tick(4), 1);
        CHECK.same("by 1, which came first", Halls.faults(y), "4 7");
    }
}
