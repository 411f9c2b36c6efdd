/** STEPS 25 to 28 and promise 17 at their edges; each check names the document's words. */
public final class LockEdgesTest {
    private static final Check CHECK = new Check("LockEdgesTest");

    public static void main(String[] args) {
        reads();
        readsItAlready();
        writesItAlready();
        writes();
        readsItself();
        onceLess();
        doesNot();
        fromTheFrontOn();
        writerAlone();
        freeForReadersAlone();
        lockTells();
        CHECK.finish();
    }

    private static void reads() {
        CHECK.sentence("25 reads by LOCK a: if no other one writes, and it reads or writes it already or nobody "
            + "waits for it: one more time; else it waits (state 5)");
        TurnHall x = Halls.with(9, 25, 0, 0);
        Halls.program(x, 1, 26, 0, 0);
        Halls.run(x, 0, 0);
        CHECK.same("two read", Halls.lock(x, 0), "-1 0 2 0 -1");
        Halls.run(x, 1);
        CHECK.same("a writer waits", Halls.lock(x, 0), "-1 0 2 1 2");
        Halls.run(x, 0);
        CHECK.same("one waits for it: a new reader waits behind", Halls.lock(x, 0), "-1 0 2 2 2");
        CHECK.same("states", Halls.states(x), "9 9 5 5");
        TurnHall y = Halls.with(9, 26, 0, 0);
        Halls.program(y, 1, 25, 0, 0);
        Halls.run(y, 0, 1);
        CHECK.same("another one writes", Halls.lock(y, 0), "0 1 0 1 1");
        CHECK.same("state", y.state(1), 5);
    }

    private static void readsItAlready() {
        TurnHall x = Halls.with(9, 25, 0, 0, 34, 1, 0, 25, 0, 0, 25, 0, 0);
        Halls.program(x, 1, 26, 0, 0);
        Halls.run(x, 0, 1);
        CHECK.same("a writer waits", Halls.lock(x, 0), "-1 0 1 1 1");
        x.interrupt(0);
        x.go(9);
        CHECK.same("who reads it already does so again", Halls.lock(x, 0), "-1 0 3 1 1");
    }

    private static void writesItAlready() {
        TurnHall x = Halls.with(9, 26, 0, 0, 34, 1, 0, 25, 0, 0, 25, 0, 0);
        Halls.program(x, 1, 25, 0, 0);
        Halls.run(x, 0, 1);
        x.interrupt(0);
        x.go(9);
        CHECK.same("who writes it already reads, too", Halls.lock(x, 0), "0 1 2 1 1");
        CHECK.same("the other one waits on", x.state(1), 5);
    }

    private static void writes() {
        CHECK.sentence("26 writes by it: if nobody reads it and no other one writes: one more time; else it waits "
            + "(also if it reads itself)");
        TurnHall x = Halls.with(1000, 26, 0, 0, 5, 0, 0);
        x.begin(0, 0);
        x.go(1);
        CHECK.same("once", Halls.lock(x, 0), "0 1 0 0 -1");
        x.go(2);
        CHECK.same("one more time", Halls.lock(x, 0), "0 2 0 0 -1");
        Halls.program(x, 1, 26, 0, 0);
        x.begin(1, 0);
        x.schedule(1, 1);
        x.go(998);
        CHECK.same("another one writes", Halls.lock(x, 0), "0 500 0 1 1");
        TurnHall y = Halls.with(9, 26, 0, 0, 34, 1, 0, 26, 0, 0);
        Halls.program(y, 1, 26, 0, 0);
        Halls.run(y, 0, 1);
        y.interrupt(0);
        y.go(9);
        CHECK.same("though another one waits for it", Halls.lock(y, 0), "0 2 0 1 1");
        TurnHall z = Halls.with(9, 25, 0, 0);
        Halls.program(z, 1, 26, 0, 0);
        Halls.run(z, 0, 1);
        CHECK.same("another one reads", Halls.lock(z, 0), "-1 0 1 1 1");
    }

    private static void readsItself() {
        TurnHall x = Halls.with(9, 25, 0, 0, 26, 0, 0);
        Halls.run(x, 0);
        CHECK.same("it reads itself: it waits", Halls.lock(x, 0), "-1 0 1 1 0");
        CHECK.same("state", x.state(0), 5);
        TurnHall y = Halls.with(9, 26, 0, 0, 25, 0, 0, 26, 0, 0);
        Halls.run(y, 0);
        CHECK.same("also if it writes besides", Halls.lock(y, 0), "0 1 1 1 0");
        TurnHall z = Halls.with(9, 26, 0, 0, 25, 0, 0, 27, 0, 0, 26, 0, 0);
        Halls.run(z, 0);
        CHECK.same("not if it read before", Halls.lock(z, 0), "0 2 0 0 -1");
    }

    private static void onceLess() {
        CHECK.sentence("27, 28 reads, writes it once less (it does not: FAULT 1)");
        TurnHall x = Halls.with(9, 25, 0, 0, 25, 0, 0, 27, 0, 0, 13, 0, 0, 27, 0, 0, 0, 0, 0);
        x.begin(0, 0);
        x.go(3);
        CHECK.same("once less", Halls.lock(x, 0), "-1 0 1 0 -1");
        x.go(2);
        CHECK.same("no more", Halls.lock(x, 0), "-1 0 0 0 -1");
        TurnHall y = Halls.with(9, 26, 0, 0, 26, 0, 0, 28, 0, 0, 13, 0, 0, 28, 0, 0, 0, 0, 0);
        y.begin(0, 0);
        y.go(3);
        CHECK.same("once less", Halls.lock(y, 0), "0 1 0 0 -1");
        y.go(2);
        CHECK.same("no more", Halls.lock(y, 0), "-1 0 0 0 -1");
    }

    private static void doesNot() {
        CHECK.same("nobody reads", Halls.faultOf(0, 27, 0, 0), 1);
        CHECK.same("nobody writes", Halls.faultOf(0, 28, 0, 0), 1);
        CHECK.same("reads no more", Halls.faultOf(0, 25, 0, 0, 27, 0, 0, 27, 0, 0), 1);
        CHECK.same("writes no more", Halls.faultOf(0, 26, 0, 0, 28, 0, 0, 28, 0, 0), 1);
        CHECK.same("it writes and does not read", Halls.faultOf(0, 26, 0, 0, 27, 0, 0), 1);
        CHECK.same("it reads and does not write", Halls.faultOf(0, 25, 0, 0, 28, 0, 0), 1);
        CHECK.same("it reads another LOCK", Halls.faultOf(0, 25, 0, 0, 27, 1, 0), 1);
        CHECK.same("it writes another LOCK", Halls.faultOf(0, 26, 0, 0, 28, 1, 0), 1);
        TurnHall x = Halls.with(9, 25, 0, 0);
        Halls.program(x, 1, 27, 0, 0);
        Halls.program(x, 2, 26, 1, 0);
        Halls.program(x, 3, 28, 1, 0);
        Halls.run(x, 0, 1, 2, 3);
        CHECK.same("another one does", Halls.faults(x), "0 1 0 1");
        CHECK.same("he reads on", Halls.lock(x, 0), "-1 0 1 0 -1");
        CHECK.same("he writes on", Halls.lock(x, 1), "2 1 0 0 -1");
    }

    /** PROGRAM 0 writes till it is interrupted, then reads (1) or writes (2) come: they note and go on at once. */
    private static TurnHall behindAWriter(int... programs) {
        TurnHall x = Halls.with(9, 26, 0, 0, 34, 1, 0, 28, 0, 0);
        Halls.program(x, 1, 25, 0, 0, 12, 0, 0, 34, 1, 0, 24, 2, 0, 27, 0, 0);
        Halls.program(x, 2, 26, 0, 0, 12, 0, 0, 34, 1, 0, 24, 2, 0, 28, 0, 0);
        Halls.run(x, 0);
        Halls.run(x, programs);
        x.interrupt(0);
        x.go(99);
        return x;
    }

    private static void fromTheFrontOn() {
        CHECK.sentence("When a LOCK is free for them, those that wait have it from the front on: a writer alone if "
            + "nobody reads or writes, readers as many as stand there if nobody writes");
        TurnHall x = behindAWriter(1, 1, 1, 2, 1, 2, 2);
        CHECK.same("three readers, then a writer stands there", Halls.lock(x, 0), "-1 0 3 4 4");
        CHECK.same("states", Halls.states(x), "9 8 8 8 5 5 5 5");
        x.interrupt(2);
        x.interrupt(1);
        x.go(99);
        CHECK.same("one reads still", Halls.lock(x, 0), "-1 0 1 4 4");
        x.interrupt(3);
        x.go(99);
        CHECK.same("then the writer alone", Halls.lock(x, 0), "4 1 0 3 5");
        x.interrupt(4);
        x.go(99);
        CHECK.same("then the reader", Halls.lock(x, 0), "-1 0 1 2 6");
        x.interrupt(5);
        x.go(99);
        CHECK.same("then one of two writers", Halls.lock(x, 0), "6 1 0 1 7");
        x.interrupt(6);
        x.go(99);
        CHECK.same("then the last", Halls.lock(x, 0), "7 1 0 0 -1");
        x.interrupt(7);
        CHECK.same("go", x.go(99), 1);
        CHECK.same("free", Halls.lock(x, 0), "-1 0 0 0 -1");
        CHECK.same("notes", Halls.notes(x), "1:0 2:0 3:0 4:0 5:0 6:0 7:0");
    }

    private static void writerAlone() {
        TurnHall x = behindAWriter(2, 1, 1);
        CHECK.same("a writer at the front is alone", Halls.lock(x, 0), "1 1 0 2 2");
        TurnHall y = Halls.with(9, 26, 0, 0, 26, 0, 0, 34, 1, 0, 28, 0, 0, 24, 1, 0, 34, 2, 0, 28, 0, 0);
        Halls.program(y, 1, 25, 0, 0);
        Halls.run(y, 0, 1);
        y.interrupt(0);
        y.go(9);
        CHECK.same("one that writes once less writes still", Halls.lock(y, 0), "0 1 0 1 1");
        y.interrupt(0);
        y.go(9);
        CHECK.same("no more", Halls.lock(y, 0), "-1 0 1 0 -1");
    }

    private static void freeForReadersAlone() {
        TurnHall x = Halls.with(9, 26, 0, 0, 25, 0, 0, 34, 1, 0, 28, 0, 0, 24, 2, 0, 34, 1, 0, 27, 0, 0);
        Halls.program(x, 1, 25, 0, 0);
        Halls.program(x, 2, 26, 0, 0);
        Halls.run(x, 0, 1, 2);
        CHECK.same("it writes and reads", Halls.lock(x, 0), "0 1 1 2 1");
        x.interrupt(0);
        x.go(9);
        CHECK.same("it reads alone: the reader has it, the writer not", Halls.lock(x, 0), "-1 0 2 1 2");
        TurnHall y = Halls.with(9, 26, 0, 0, 25, 0, 0, 34, 1, 0, 27, 0, 0);
        Halls.program(y, 1, 25, 0, 0);
        Halls.run(y, 0, 1);
        y.interrupt(0);
        y.go(9);
        CHECK.same("it reads no more and writes still: nobody has it", Halls.lock(y, 0), "0 1 0 1 1");
    }

    private static void lockTells() {
        CHECK.sentence("Of LOCK l, what 0: who writes (-1), 1: how often, 2: how often it is read (by all), 3: those "
            + "that wait, 4: the first of them (-1)");
        TurnHall x = Halls.with(99, 25, 7, 0, 25, 7, 0, 25, 7, 0);
        for (int l = 0; l < 8; l++) {
            CHECK.same("a new one", Halls.lock(x, l), "-1 0 0 0 -1");
        }
        Halls.run(x, 0, 0);
        CHECK.same("by all", Halls.lock(x, 7), "-1 0 6 0 -1");
        for (int no : new int[] {-1, 8, Integer.MIN_VALUE, Integer.MAX_VALUE}) {
            CHECK.bad("LOCK " + no, () -> x.lock(no, 0));
        }
        for (int no : new int[] {-1, 5, Integer.MIN_VALUE, Integer.MAX_VALUE}) {
            CHECK.bad("what " + no, () -> x.lock(0, no));
        }
    }
}
