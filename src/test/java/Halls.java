/** What several tests do with a hall. */
final class Halls {
    private Halls() {
    }

    /** Puts STEPS, three numbers each: operation, a, b. */
    static void program(TurnHall x, int p, long... steps) {
        for (int i = 0; i + 2 < steps.length; i += 3) {
            x.put(p, (int) steps[i], steps[i + 1], steps[i + 2]);
        }
    }

    /** Puts the same STEP so many times. */
    static void repeat(TurnHall x, int p, int times, int op, long a, long b) {
        for (int i = 0; i < times; i++) {
            x.put(p, op, a, b);
        }
    }

    /** The numbers of the THREADS in THE NOTES, with what they noted. */
    static String notes(TurnHall x) {
        StringBuilder text = new StringBuilder();
        for (int i = 0; x.note(i, false) >= 0; i++) {
            text.append(i == 0 ? "" : " ").append(x.note(i, false)).append(':').append(x.note(i, true));
        }
        return text.toString();
    }

    /** All that can be asked of a hall; PROGRAMS cannot. */
    static String all(TurnHall x) {
        StringBuilder text = new StringBuilder();
        for (int what = 0; what < 8; what++) {
            text.append(x.count(what)).append(' ');
        }
        for (int t = 0; t < x.count(0); t++) {
            text.append("| ").append(x.state(t)).append(' ').append(x.ring(t)).append(' ');
            for (int what = 0; what < 8; what++) {
                text.append(x.thread(t, what)).append(' ');
            }
            for (int r = 0; r < 4; r++) {
                text.append(x.register(t, r)).append(' ');
            }
        }
        for (int i = 0; i < 8; i++) {
            text.append("| ");
            for (int what = 0; what < 6; what++) {
                text.append(x.monitor(i, what)).append(' ');
            }
            for (int what = 0; what < 5; what++) {
                text.append(x.lock(i, what)).append(' ');
            }
            for (int what = 0; what < 2; what++) {
                text.append(x.semaphore(i, what)).append(' ');
            }
            for (int what = 0; what < 4; what++) {
                text.append(x.barrier(i, what)).append(' ');
            }
        }
        for (int i = 0; i < 32; i++) {
            text.append(x.cell(i)).append(' ');
        }
        return text.append(notes(x)).toString();
    }

    /** The FAULT that a lone THREAD, with its R[0] as told, ENDED by (0: none) when it did the STEPS. */
    static int faultOf(long r, long... steps) {
        TurnHall x = new TurnHall(1000);
        program(x, 0, steps);
        int t = x.begin(0, r);
        x.go(1000);
        return x.thread(t, 6);
    }
}
