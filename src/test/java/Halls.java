import java.util.function.IntUnaryOperator;

/** What several tests do with a hall. */
final class Halls {
    private Halls() {
    }

    /** A new hall with these STEPS in PROGRAM 0. */
    static TurnHall with(int quantum, long... steps) {
        TurnHall x = new TurnHall(quantum);
        program(x, 0, steps);
        return x;
    }

    /** Begins THREADS of the PROGRAMS told, with 0 in their REGISTERS, and lets all go on as far as they can. */
    static void run(TurnHall x, int... programs) {
        for (int p : programs) {
            x.begin(p, 0);
        }
        x.go(20000);
    }

    /** Puts STEPS, three numbers each: operation, a, b. */
    static void program(TurnHall x, int p, long... steps) {
        for (int i = 0; i + 2 < steps.length; i += 3) {
            x.put(p, (int) steps[i], steps[i + 1], steps[i + 2]);
        }
    }

    /** Puts the same STEP so many times. */
    static void repeat(TurnHall x, int p, int times, int op, long a, long b) {
        for (int i = 0; i < times; i++) {
            x.put(p, op, a, b);
        }
    }

    /** The numbers of the THREADS in THE NOTES, with what they noted. */
    static String notes(TurnHall x) {
        StringBuilder text = new StringBuilder();
        for (int i = 0; x.note(i, false) >= 0; i++) {
            text.append(i == 0 ? "" : " ").append(x.note(i, false)).append(':').append(x.note(i, true));
        }
        return text.toString();
    }

    /** All that can be asked of a hall; PROGRAMS cannot. */
    static String all(TurnHall x) {
        StringBuilder text = new StringBuilder();
        for (int what = 0; what < 8; what++) {
            text.append(x.count(what)).append(' ');
        }
        for (int t = 0; t < x.count(0); t++) {
            text.append("| ").append(x.state(t)).append(' ').append(x.ring(t)).append(' ');
            for (int what = 0; what < 8; what++) {
                text.append(x.thread(t, what)).append(' ');
            }
            for (int r = 0; r < 4; r++) {
                text.append(x.register(t, r)).append(' ');
            }
        }
        text.append(things(x));
        return text.append(notes(x)).toString();
    }

    /** All that can be asked of MONITORS, LOCKS, SEMAPHORES, BARRIERS and CELLS. */
    static String things(TurnHall x) {
        StringBuilder text = new StringBuilder();
        for (int i = 0; i < 8; i++) {
            text.append("| ");
            for (int what = 0; what < 6; what++) {
                text.append(x.monitor(i, what)).append(' ');
            }
            for (int what = 0; what < 5; what++) {
                text.append(x.lock(i, what)).append(' ');
            }
            for (int what = 0; what < 2; what++) {
                text.append(x.semaphore(i, what)).append(' ');
            }
            for (int what = 0; what < 4; what++) {
                text.append(x.barrier(i, what)).append(' ');
            }
        }
        for (int i = 0; i < 32; i++) {
            text.append(x.cell(i)).append(' ');
        }
        return text.toString();
    }

    /** What thread() tells of THREAD t, whats 0 to 7. */
    static String thread(TurnHall x, int t) {
        return row(8, what -> x.thread(t, what));
    }

    /** What monitor() tells of MONITOR m, whats 0 to 5. */
    static String monitor(TurnHall x, int m) {
        return row(6, what -> x.monitor(m, what));
    }

    /** What lock() tells of LOCK l, whats 0 to 4. */
    static String lock(TurnHall x, int l) {
        return row(5, what -> x.lock(l, what));
    }

    /** What semaphore() tells of SEMAPHORE s, whats 0 and 1. */
    static String semaphore(TurnHall x, int s) {
        return row(2, what -> x.semaphore(s, what));
    }

    /** What barrier() tells of BARRIER y, whats 0 to 3. */
    static String barrier(TurnHall x, int y) {
        return row(4, what -> x.barrier(y, what));
    }

    /** The states of all THREADS. */
    static String states(TurnHall x) {
        return row(x.count(0), t -> x.state(t));
    }

    /** The FAULTS that all THREADS ENDED by. */
    static String faults(TurnHall x) {
        return row(x.count(0), t -> x.thread(t, 6));
    }

    private static String row(int length, IntUnaryOperator of) {
        StringBuilder text = new StringBuilder();
        for (int i = 0; i < length; i++) {
            text.append(i == 0 ? "" : " ").append(of.applyAsInt(i));
        }
        return text.toString();
    }

    /** The FAULT that a lone THREAD, with its R[0] as told, ENDED by (0: none) when it did the STEPS. */
    static int faultOf(long r, long... steps) {
        TurnHall x = new TurnHall(1000);
        program(x, 0, steps);
        int t = x.begin(0, r);
        x.go(1000);
        return x.thread(t, 6);
    }
}
