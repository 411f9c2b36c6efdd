import java.util.Arrays;

/** Term 3 at its edges: what STEPS name, and STEPS 0 to 13; each check names the document's words. */
public final class StepEdgesTest {
    private static final Check CHECK = new Check("StepEdgesTest");
    private static final long LEAST = Long.MIN_VALUE;
    private static final long MOST = Long.MAX_VALUE;

    public static void main(String[] args) {
        registersFirstOfAll();
        everyStepWithRegisters();
        everyRegister();
        numbersThatNameNothing();
        thingsThatAreThere();
        thingsThatAreNot();
        nothingAndLoad();
        addAndOneLess();
        goesOnAt();
        itsNumberOfSteps();
        likewiseIfAbove0();
        callsProgram();
        twentyCalls();
        returnsBehindTheLastStep();
        emptyAtOnce();
        waitsWhenItGoesOn();
        handlerPlaces();
        raisedFaults();
        noted();
        yields();
        others();
        CHECK.finish();
    }

    /** The FAULT that the STEP has, and the MARK, of a THREAD with its MARK and with R[0] as told. */
    private static String marked(long r, int op, long a, long b) {
        TurnHall x = Halls.with(9, op, a, b);
        x.begin(0, r);
        x.interrupt(0);
        x.go(9);
        return x.thread(0, 6) + " " + x.thread(0, 4);
    }

    private static void registersFirstOfAll() {
        CHECK.sentence("R[x] is REGISTER x (0 to 3; others: FAULT 3, looked at first of all)");
        for (long no : new long[] {-1, 4, 1L << 32, LEAST, MOST}) {
            CHECK.same("before FAULT 9", Halls.faultOf(1, 6, 99, no), 3);
            CHECK.same("before FAULT 1", Halls.faultOf(0, 17, 0, no), 3);
            CHECK.same("before FAULT 6, by b", Halls.faultOf(99, 22, 0, no), 3);
            CHECK.same("before FAULT 2 of 17", marked(0, 17, 0, no), "3 1");
            CHECK.same("before FAULT 2 of 20", marked(0, 20, no, 0), "3 1");
            CHECK.same("before FAULT 2 of 22, by a", marked(0, 22, no, 0), "3 1");
            CHECK.same("before FAULT 2 of 22, by b", marked(0, 22, 0, no), "3 1");
            CHECK.same("before FAULT 2 of 29", marked(0, 29, 0, no), "3 1");
            CHECK.same("before FAULT 2 of 31", marked(0, 31, 0, no), "3 1");
            CHECK.same("before FAULT 2 of 32", marked(0, 32, 0, no), "3 1");
            CHECK.same("before FAULT 4", Halls.faultOf(0, 10, 3, 0, 23, 0, 0, 32, 0, 1, 32, 0, no), 3);
            CHECK.same("before FAULT 8", Halls.faultOf(0, 10, 3, 0, 21, 1, 1, 5, 1, 0, 21, no, 1), 3);
            CHECK.same("34 looks, though it would not wait", marked(0, 34, no, 0), "3 1");
        }
    }

    private static void everyStepWithRegisters() {
        int[] byA = {1, 2, 3, 4, 7, 12, 20, 21, 22, 23, 24, 34, 35};
        int[] byB = {2, 6, 16, 17, 22, 29, 30, 31, 32};
        for (long no : new long[] {-1, 4, 1L << 32, LEAST, MOST}) {
            for (int op : byA) {
                CHECK.same("R[" + no + "] of STEP " + op + ", by a", marked(0, op, no, 0), "3 1");
            }
            for (int op : byB) {
                CHECK.same("R[" + no + "] of STEP " + op + ", by b", marked(0, op, 0, no), "3 1");
            }
        }
    }

    private static void everyRegister() {
        for (int r = 0; r < 4; r++) {
            TurnHall x = Halls.with(9, 1, r, 5 + r, 12, r, 0, 2, r, r, 4, r, r, 31, 0, r);
            x.supply(0, 10 + 2 * r);
            Halls.run(x, 0);
            CHECK.same("noted by a", x.note(0, true), 5 + r);
            CHECK.same("added by a and b, stored by a", x.cell(r), 10 + 2 * r);
            CHECK.same("taken by b", Halls.semaphore(x, 0), "0 0");
            CHECK.same("it had them", x.register(0, r), 1);
        }
    }

    /** All that can be told behind one STEP of a THREAD that owns MONITOR 0 and reads LOCK 0 and writes LOCK 1. */
    private static String behind(int op, long a, long b) {
        TurnHall x = Halls.with(99, 14, 0, 0, 25, 0, 0, 26, 1, 0, op, a, b, 0, 0, 0, 0, 0, 0);
        x.begin(0, 0);
        x.go(4);
        return Halls.all(x);
    }

    /** Only what a STEP names is looked at: where it tells of no a or no b, that may be any number. */
    private static void numbersThatNameNothing() {
        for (long any : new long[] {-1, 4, 8, 16, 32, 1L << 32, LEAST, MOST}) {
            for (int op : new int[] {5, 7, 8, 10, 11, 12, 14, 15, 18, 19, 20, 23, 24, 25, 26, 27, 33, 34, 35}) {
                CHECK.same("b of STEP " + op + " is " + any, behind(op, 1, any), behind(op, 1, 0));
                CHECK.same("b of STEP " + op + " is " + any, behind(op, 0, any), behind(op, 0, 0));
            }
            CHECK.same("b of STEP 28 is " + any, behind(28, 1, any), behind(28, 1, 0));
            for (int op : new int[] {0, 9, 13}) {
                CHECK.same("a of STEP " + op + " is " + any, behind(op, any, 0), behind(op, 0, 0));
                CHECK.same("b of STEP " + op + " is " + any, behind(op, 0, any), behind(op, 0, 0));
            }
            CHECK.same("b of STEP 1 is any number", Halls.faultOf(0, 1, 0, any), 0);
        }
    }

    private static void thingsThatAreThere() {
        CHECK.sentence("Where what a STEP names is none there (m, l, s, y: 0 to 7; CELLS): FAULT 3");
        for (long i : new long[] {0, 7}) {
            CHECK.same("MONITOR " + i, Halls.faultOf(0, 14, i, 0, 16, i, 1, 18, i, 0, 19, i, 0, 15, i, 0), 0);
            CHECK.same("waits at MONITOR " + i, Halls.faultOf(0, 14, i, 0, 17, i, 0), 0);
            CHECK.same("LOCK " + i, Halls.faultOf(0, 25, i, 0, 27, i, 0, 26, i, 0, 28, i, 0), 0);
            CHECK.same("SEMAPHORE " + i, Halls.faultOf(0, 29, i, 0, 30, i, 0, 31, i, 0), 0);
            CHECK.same("BARRIER " + i, Halls.faultOf(0, 32, i, 0, 33, i, 0), 0);
        }
        for (long i : new long[] {0, 31}) {
            CHECK.same("CELL " + i, Halls.faultOf(0, 3, 0, i, 4, 0, i), 0);
        }
    }

    private static void thingsThatAreNot() {
        for (long no : new long[] {-1, 8, 1L << 32, LEAST, MOST}) {
            for (int op = 14; op <= 33; op++) {
                if (op < 20 || op > 24) {
                    CHECK.same("STEP " + op + " of " + no, marked(0, op, no, 0), "3 1");
                }
            }
        }
        CHECK.sentence("3: R[a] becomes CELL b. 4: CELL b becomes R[a]");
        for (long no : new long[] {-1, 32, 1L << 32, LEAST, MOST}) {
            CHECK.same("fetch from CELL " + no, Halls.faultOf(0, 3, 0, no), 3);
            CHECK.same("store in CELL " + no, Halls.faultOf(0, 4, 0, no), 3);
        }
    }

    private static void nothingAndLoad() {
        CHECK.sentence("0: nothing. 1: R[a] becomes b");
        TurnHall x = Halls.with(1, 0, LEAST, MOST, 1, 0, LEAST, 1, 3, MOST, 0, -1, 99);
        x.begin(0, 7);
        x.go(1);
        CHECK.same("nothing but a STEP", Halls.thread(x, 0), "1 0 1 -1 0 0 0 1");
        CHECK.same("R[0] stays", x.register(0, 0), 7);
        x.go(9);
        CHECK.same("the least", x.register(0, 0), LEAST);
        CHECK.same("the most", x.register(0, 3), MOST);
    }

    private static void addAndOneLess() {
        CHECK.sentence("2: R[a] becomes R[a] + R[b]");
        long[][] sums = {{MOST, 1, LEAST}, {LEAST, -1, MOST}, {LEAST, LEAST, 0}, {MOST, MOST, -2}, {0, LEAST, LEAST}};
        for (long[] s : sums) {
            TurnHall x = Halls.with(9, 1, 1, s[1], 2, 0, 1);
            x.begin(0, s[0]);
            x.go(9);
            CHECK.same("a sum that goes around", x.register(0, 0), s[2]);
            CHECK.same("R[b] stays", x.register(0, 1), s[1]);
        }
        CHECK.sentence("7: R[a] becomes one less");
        long[][] less = {{1, 0}, {0, -1}, {LEAST, MOST}, {MOST, MOST - 1}};
        for (long[] s : less) {
            TurnHall x = Halls.with(9, 7, 0, 0);
            x.begin(0, s[0]);
            x.go(9);
            CHECK.same("one less than " + s[0], x.register(0, 0), s[1]);
        }
    }

    private static void goesOnAt() {
        CHECK.sentence("5: goes on at PLACE a (0 to its number of STEPS, where a CALL returns; others: FAULT 9)");
        TurnHall x = Halls.with(1, 12, 0, 0, 5, 0, 0);
        x.begin(0, 0);
        x.go(2);
        CHECK.same("PLACE 0", x.thread(0, 2), 0);
        TurnHall y = Halls.with(1, 5, 3, 0, 11, 50, 0, 11, 51, 0);
        y.begin(0, 0);
        CHECK.same("its number of STEPS: the outermost CALL is over", y.go(1), 1);
        CHECK.same("ENDED without FAULT", Halls.thread(y, 0), "0 -1 -1 -1 0 0 0 1");
        TurnHall z = Halls.with(1, 8, 1, 0, 12, 0, 0);
        Halls.program(z, 1, 5, 2, 0, 11, 50, 0);
        z.begin(0, 6);
        z.go(2);
        CHECK.same("the inner CALL is over", Halls.thread(z, 0), "1 0 1 -1 0 0 0 2");
        for (long no : new long[] {-1, 4, 200, 1L << 32, LEAST, MOST}) {
            CHECK.same("PLACE " + no, Halls.faultOf(0, 5, no, 0, 0, 0, 0, 0, 0, 0), 9);
        }
        CHECK.same("the last STEP", Halls.faultOf(0, 5, 2, 0, 11, 50, 0, 11, 51, 0), 51);
        TurnHall w = Halls.with(1, 0, 0, 0);
        Halls.repeat(w, 0, 198, 0, 0, 0);
        w.put(0, 5, 200, 0);
        w.begin(0, 0);
        CHECK.same("behind the 200th", w.go(200), 1);
        CHECK.same("without FAULT", w.thread(0, 6), 0);
    }

    private static void itsNumberOfSteps() {
        TurnHall x = Halls.with(1, 8, 1, 0, 0, 0, 0, 0, 0, 0, 0, 0, 0);
        Halls.program(x, 1, 5, 2, 0);
        Halls.run(x, 0);
        CHECK.same("that of the innermost CALL's PROGRAM", x.thread(0, 6), 9);
        TurnHall y = Halls.with(1, 13, 0, 0, 5, 3, 0);
        y.begin(0, 0);
        y.go(1);
        y.put(0, 11, 50, 0);
        CHECK.same("as it is then", y.go(1), 1);
        CHECK.same("as it is then", y.thread(0, 6), 0);
    }

    private static void likewiseIfAbove0() {
        CHECK.sentence("6: likewise if R[b] is above 0");
        for (long above : new long[] {1, 2, MOST}) {
            CHECK.same("goes on there", Halls.faultOf(above, 6, 2, 0, 11, 50, 0), 0);
            CHECK.same("to the last STEP", Halls.faultOf(above, 6, 2, 0, 11, 50, 0, 11, 51, 0), 51);
            CHECK.same("one beyond", Halls.faultOf(above, 6, 3, 0, 11, 50, 0), 9);
            CHECK.same("one below", Halls.faultOf(above, 6, -1, 0, 11, 50, 0), 9);
        }
        for (long no : new long[] {0, -1, LEAST}) {
            CHECK.same("goes on behind it", Halls.faultOf(no, 6, 2, 0, 11, 50, 0), 50);
            CHECK.same("wherever it would go", Halls.faultOf(no, 6, 3, 0, 11, 50, 0), 50);
            CHECK.same("wherever it would go", Halls.faultOf(no, 6, LEAST, 0, 11, 50, 0), 50);
        }
        TurnHall x = Halls.with(9, 12, 0, 0, 7, 0, 0, 6, 0, 0);
        x.begin(0, 3);
        x.go(99);
        CHECK.same("till 0", Halls.notes(x), "0:3 0:2 0:1");
    }

    private static void callsProgram() {
        CHECK.sentence("8: calls PROGRAM a (not 0 to 15: FAULT 3; FAULT 5 with 20 CALLS): at PLACE 0, without HANDLER");
        TurnHall x = Halls.with(9, 10, 1, 0, 8, 15, 0, 0, 0, 0);
        Halls.program(x, 15, 0, 0, 0);
        x.begin(0, 0);
        x.go(2);
        CHECK.same("PROGRAM 15", Halls.thread(x, 0), "2 15 0 -1 0 0 0 2");
        x.go(1);
        CHECK.same("back again, with its HANDLER", Halls.thread(x, 0), "1 0 2 1 0 0 0 3");
        for (long no : new long[] {-1, 16, 1L << 32, LEAST, MOST}) {
            CHECK.same("PROGRAM " + no, Halls.faultOf(0, 8, no, 0), 3);
        }
        TurnHall y = Halls.with(9, 13, 0, 0, 8, 0, 0);
        y.begin(0, 0);
        y.go(2);
        CHECK.same("itself, at PLACE 0", Halls.thread(y, 0), "2 0 0 -1 0 0 0 2");
        TurnHall z = Halls.with(9, 8, 1, 0, 8, 1, 0);
        Halls.program(z, 1, 10, 1, 0, 12, 0, 0);
        z.begin(0, 7);
        z.go(4);
        CHECK.same("a second time at PLACE 0, without HANDLER, too", Halls.thread(z, 0), "2 1 0 -1 0 0 0 4");
        CHECK.same("both to their end", z.go(2), 1);
        CHECK.same("notes", Halls.notes(z), "0:7 0:7");
    }

    private static void twentyCalls() {
        TurnHall x = Halls.with(99, 8, 1, 0);
        Halls.program(x, 1, 6, 2, 0, 8, 1, 0, 8, 2, 0);
        x.begin(0, 0);
        x.go(1 + 18 * 2);
        CHECK.same("19 CALLS may call", x.thread(0, 0), 20);
        CHECK.same("no FAULT yet", x.count(6), 0);
        x.go(2);
        CHECK.same("20 may not", x.thread(0, 6), 5);
        TurnHall y = Halls.with(99, 7, 0, 0, 6, 4, 0, 8, 1, 0, 11, 50, 0, 8, 0, 0);
        y.begin(0, 19);
        y.go(999);
        CHECK.same("an empty one in the 19th", y.thread(0, 6), 50);
        y.begin(0, 20);
        y.go(999);
        CHECK.same("an empty one in the 20th", y.thread(1, 6), 5);
        TurnHall z = Halls.with(99, 7, 0, 0, 6, 4, 0, 8, 16, 0, 0, 0, 0, 8, 0, 0);
        z.begin(0, 20);
        z.go(999);
        CHECK.same("FAULT 3 comes before FAULT 5", z.thread(0, 6), 3);
    }

    private static void returnsBehindTheLastStep() {
        CHECK.sentence("9: returns, as behind the last STEP (which is no STEP then): the CALL is over; the outermost "
            + "one's: the THREAD has ENDED");
        TurnHall x = Halls.with(9, 8, 1, 0, 9, 0, 0, 11, 50, 0);
        Halls.program(x, 1, 9, 0, 0, 11, 51, 0);
        x.begin(0, 0);
        x.go(2);
        CHECK.same("the inner CALL is over", Halls.thread(x, 0), "1 0 1 -1 0 0 0 2");
        CHECK.same("the outermost one's", x.go(1), 1);
        CHECK.same("ENDED", Halls.thread(x, 0), "0 -1 -1 -1 0 0 0 3");
        TurnHall y = Halls.with(9, 8, 1, 0, 0, 0, 0);
        Halls.program(y, 1, 8, 2, 0);
        Halls.program(y, 2, 0, 0, 0);
        y.begin(0, 0);
        y.go(2);
        CHECK.same("a CALL whose last STEP calls is not over", Halls.thread(y, 0), "3 2 0 -1 0 0 0 2");
        y.go(1);
        CHECK.same("both are over behind the inner one's last STEP", Halls.thread(y, 0), "1 0 1 -1 0 0 0 3");
        CHECK.same("one STEP is left", y.go(1), 1);
        CHECK.same("no STEP more", Halls.thread(y, 0), "0 -1 -1 -1 0 0 0 4");
        TurnHall z = Halls.with(9, 6, 2, 0, 9, 0, 0, 7, 0, 0, 8, 0, 0);
        z.begin(0, 19);
        CHECK.same("20 CALLS are over at once, from the innermost on", z.go(19 * 3 + 2), 1);
        CHECK.same("without FAULT", z.thread(0, 6), 0);
    }

    private static void emptyAtOnce() {
        CHECK.sentence("that of an empty PROGRAM at once, one that waits when it goes on");
        TurnHall x = Halls.with(9, 8, 1, 0, 21, 0, 1, 8, 1, 0);
        CHECK.same("begins", x.begin(1, 5), 0);
        CHECK.same("has ENDED at once", Halls.thread(x, 0), "0 -1 -1 -1 0 0 0 0");
        CHECK.same("without FAULT", x.state(0), 9);
        CHECK.same("none is READY", x.count(1), 0);
        x.begin(0, 0);
        x.go(1);
        CHECK.same("the CALL is over at once", Halls.thread(x, 1), "1 0 1 -1 0 0 0 1");
        x.go(1);
        CHECK.same("one that was started has ENDED at once", Halls.thread(x, 2), "0 -1 -1 -1 0 0 0 0");
        CHECK.same("a CALL of it as the last STEP", x.go(1), 1);
        CHECK.same("ENDED", Halls.thread(x, 1), "0 -1 -1 -1 0 0 0 3");
    }

    /** THREAD 1 waits by its last STEP; THREAD 0, or time, lets it go on: its MONITOR, LOCK, number, end and so on. */
    private static void waitsWhenItGoesOn() {
        long[][] lasts = {
            {1, 14, 0, 0}, {2, 14, 1, 0, 17, 1, 0}, {3, 20, 0, 0}, {4, 22, 1, 0}, {5, 25, 0, 0}, {5, 26, 0, 0},
            {6, 29, 0, 0}, {7, 32, 0, 0}, {8, 34, 0, 0},
        };
        for (long[] last : lasts) {
            long[] steps = Arrays.copyOfRange(last, 1, last.length);
            int length = steps.length / 3;
            TurnHall x = Halls.with(99, 14, 0, 0, 26, 0, 0, 34, 1, 0, 24, 2, 0, 15, 0, 0, 28, 0, 0, 30, 0, 2, 32, 0, 1);
            x.parties(0, last[0] == 7 ? 2 : 1);
            Halls.program(x, 1, steps);
            x.begin(0, 0);
            x.begin(1, 1);
            x.go(99);
            String what = "by STEP " + last[last.length - 3];
            CHECK.same(what + ": waits", x.state(1), last[0]);
            CHECK.same(what + ": its CALL is not over", Halls.thread(x, 1), "1 1 " + length + " -1 0 0 0 " + length);
            CHECK.refused(what + ": its PROGRAM is in use", () -> x.drop(1));
            x.interrupt(0);
            x.go(99);
            x.tick(1);
            CHECK.same(what + ": it has ENDED", x.state(1), 9);
            CHECK.same(what + ": no STEP more", Halls.thread(x, 1), "0 -1 -1 -1 0 0 0 " + length);
            CHECK.same(what + ": its PROGRAM is free", x.drop(1), length);
        }
    }

    private static void handlerPlaces() {
        CHECK.sentence("10: the HANDLER becomes PLACE a (-1: none; not in the PROGRAM: FAULT 9)");
        for (long place : new long[] {0, 1, 2}) {
            TurnHall x = Halls.with(9, 10, place, 0, 0, 0, 0, 0, 0, 0);
            x.begin(0, 0);
            x.go(1);
            CHECK.same("PLACE " + place, x.thread(0, 3), place);
        }
        for (long no : new long[] {-2, 3, 4, 1L << 32, (1L << 32) - 1, LEAST, MOST}) {
            CHECK.same("PLACE " + no, Halls.faultOf(0, 10, no, 0, 0, 0, 0, 0, 0, 0), 9);
        }
        TurnHall y = Halls.with(9, 10, 2, 0, 10, -1, 0, 11, 50, 0);
        y.begin(0, 0);
        y.go(2);
        CHECK.same("none", y.thread(0, 3), -1);
        y.go(1);
        CHECK.same("none catches", y.thread(0, 6), 50);
        TurnHall z = Halls.with(9, 10, 3, 0, 10, 9, 0, 11, 50, 0, 12, 3, 0);
        Halls.run(z, 0);
        CHECK.same("FAULT 9 is caught by the HANDLER that it had", Halls.notes(z), "0:9");
        TurnHall w = Halls.with(9, 8, 1, 0, 0, 0, 0, 0, 0, 0);
        Halls.program(w, 1, 10, 2, 0);
        Halls.run(w, 0);
        CHECK.same("not in the innermost CALL's PROGRAM", w.thread(0, 6), 9);
    }

    private static void raisedFaults() {
        CHECK.sentence("11: FAULT a (below 1 or above 1000000: 3)");
        for (long a : new long[] {1, 2, 9, 10, 999999, 1000000}) {
            CHECK.same("FAULT " + a, Halls.faultOf(0, 11, a, 0), a);
        }
        for (long a : new long[] {0, -1, 1000001, (1L << 32) + 1, LEAST, MOST}) {
            CHECK.same("FAULT " + a, Halls.faultOf(0, 11, a, 0), 3);
        }
    }

    private static void noted() {
        CHECK.sentence("12: R[a] is noted (THE NOTES: THREAD and number; the first 4096 are kept)");
        TurnHall x = Halls.with(1, 12, 0, 0, 7, 0, 0, 5, 0, 0);
        x.begin(0, 4095);
        x.begin(0, LEAST);
        x.go(6 * 2047 + 2);
        CHECK.same("4095 and 4096", x.count(4), 4096);
        CHECK.same("the last but one", x.note(4094, true), 4095 - 2047);
        CHECK.same("the last that is kept", x.note(4095, true), LEAST - 2047);
        CHECK.same("its THREAD", x.note(4095, false), 1);
        CHECK.same("no more", x.note(4096, false), -1);
        x.go(6);
        CHECK.same("two more are counted", x.count(4), 4098);
        CHECK.same("they are not kept", x.note(4096, false), -1);
        CHECK.same("nor their numbers", x.note(4097, true), -1);
        CHECK.same("the first is", x.note(0, true), 4095);
        CHECK.same("the last that is kept stays", x.note(4095, true), LEAST - 2047);
    }

    private static void yields() {
        CHECK.sentence("13: yields: the turn ends");
        TurnHall x = Halls.with(1000, 12, 0, 0, 13, LEAST, MOST, 5, 0, 0);
        x.begin(0, 7);
        x.begin(0, 8);
        x.go(2 + 2 + 3 + 3);
        CHECK.same("in turn", Halls.notes(x), "0:7 1:8 0:7 1:8");
        TurnHall y = Halls.with(1000, 13, 0, 0, 12, 0, 0);
        y.begin(0, 7);
        CHECK.same("a lone one goes on", y.go(2), 1);
    }

    private static void others() {
        CHECK.sentence("Others: FAULT 3");
        for (int op : new int[] {-1, 36, 37, 64, Integer.MIN_VALUE, Integer.MAX_VALUE}) {
            CHECK.same("operation " + op, Halls.faultOf(0, op, 0, 0), 3);
        }
        CHECK.same("35 is one", Halls.faultOf(0, 35, 0, 0), 0);
        TurnHall x = Halls.with(1, 36, 0, 0);
        x.begin(0, 0);
        x.go(1);
        CHECK.same("it is a STEP", x.thread(0, 7), 1);
    }
}
