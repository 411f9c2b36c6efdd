import java.util.Random;

/**
 * Random runs of calls on a TurnHall and on a PlainHall: every answer and every exception is the same, and so is all
 * that can be asked of them behind each call. Random is seeded, so that the runs are always the same ones.
 */
public final class ModelTest {
    private interface Call {
        long answer();
    }

    private static final int RUNS = 6000;
    /** The operations that are put most often: those by which THREADS have to do with one another. */
    private static final int[] WAITS = {
        14, 15, 16, 17, 17, 18, 19, 20, 22, 23, 25, 26, 27, 28, 29, 30, 31, 32, 32, 33, 34, 35,
    };

    private final Check check;
    private final Random random;
    private final TurnHall hall;
    private final PlainHall plain;
    private final StringBuilder told = new StringBuilder();
    private final int things;
    private final int wildness;
    private boolean same = true;

    private ModelTest(Check check, int seed) {
        this.check = check;
        random = new Random(seed);
        int quantum = random.nextInt(4) == 0 ? random.nextInt(2000) - 500 : random.nextInt(6);
        things = 1 + random.nextInt(random.nextBoolean() ? 2 : 8);
        wildness = random.nextInt(3) == 0 ? 8 : 60;
        hall = new TurnHall(quantum);
        plain = new PlainHall(quantum);
        told.append("seed ").append(seed).append(", QUANTUM ").append(quantum);
    }

    public static void main(String[] args) {
        Check check = new Check("ModelTest");
        int wrong = 0;
        for (int seed = 0; seed < RUNS && wrong < 3; seed++) {
            wrong += new ModelTest(check, seed).run() ? 0 : 1;
        }
        check.finish();
    }

    private boolean run() {
        int programs = 1 + random.nextInt(4);
        for (int y = 0; y < things; y++) {
            int bar = y;
            int n = 1 + random.nextInt(4);
            both("parties(" + bar + ", " + n + ")", () -> hall.parties(bar, n), () -> plain.parties(bar, n));
        }
        for (int p = 0; p < programs; p++) {
            int length = 1 + random.nextInt(14);
            for (int i = 0; i < length; i++) {
                step(p, length);
            }
        }
        int calls = 20 + random.nextInt(60);
        for (int i = 0; i < calls && same; i++) {
            call(programs);
            compareAll();
        }
        if (!same) {
            System.out.println(told);
        }
        return same;
    }

    private boolean wild() {
        return random.nextInt(wildness) == 0;
    }

    private long wildNumber() {
        long[] some = {-1, -2, 4, 8, 16, 32, 64, 200, 1000001, 1L << 32, Long.MIN_VALUE, Long.MAX_VALUE};
        return some[random.nextInt(some.length)];
    }

    private int register() {
        return random.nextInt(3) == 0 ? random.nextInt(4) : random.nextInt(2);
    }

    private void step(int p, int length) {
        int op = random.nextInt(5) < 3 ? WAITS[random.nextInt(WAITS.length)] : random.nextInt(36);
        long a = register();
        long b = register();
        if (op == 1) {
            b = random.nextInt(5) == 0 ? wildNumber() : random.nextInt(6);
        } else if (op == 3 || op == 4) {
            b = random.nextInt(32);
        } else if (op == 5 || op == 6 || op == 10) {
            a = random.nextInt(length + 1) - (op == 10 ? 1 : 0);
        } else if (op == 8) {
            a = random.nextInt(5);
        } else if (op == 11) {
            a = random.nextInt(12);
        } else if (op == 21) {
            b = random.nextInt(5);
        } else if (op >= 14 && op <= 19 || op >= 25 && op <= 33) {
            a = random.nextInt(things);
        }
        if (wild()) {
            a = wildNumber();
        }
        if (wild()) {
            b = wildNumber();
        }
        int operation = wild() && wild() ? (int) wildNumber() : op;
        long first = a;
        long second = b;
        both("put(" + p + ", " + operation + ", " + a + ", " + b + ")", () -> hall.put(p, operation, first, second),
            () -> plain.put(p, operation, first, second));
    }

    private int number(int bound) {
        return wild() ? (int) wildNumber() : random.nextInt(bound);
    }

    private void call(int programs) {
        int p = number(programs + 1);
        int t = number(Math.max(1, hall.count(0)));
        int n = number(9);
        switch (random.nextInt(14)) {
            case 0: case 1: case 2:
                both("begin(" + p + ", " + n + ")", () -> hall.begin(p, n), () -> plain.begin(p, n));
                break;
            case 3:
                both("schedule(" + t + ", " + n + ")", () -> hall.schedule(t, n), () -> plain.schedule(t, n));
                break;
            case 4: case 5: case 6: case 7: {
                int go = wild() ? (int) wildNumber() : 1 + random.nextInt(random.nextBoolean() ? 4 : 60);
                both("go(" + go + ")", () -> hall.go(go), () -> plain.go(go));
                break;
            }
            case 8: case 9:
                both("tick(" + n + ")", () -> hall.tick(n), () -> plain.tick(n));
                break;
            case 10: case 11:
                both("interrupt(" + t + ")", () -> hall.interrupt(t), () -> plain.interrupt(t));
                break;
            case 12: {
                int s = number(things);
                both("supply(" + s + ", " + n + ")", () -> hall.supply(s, n), () -> plain.supply(s, n));
                break;
            }
            default:
                rareCall(p, t, n);
                break;
        }
    }

    private void rareCall(int p, int t, int n) {
        int i = number(things);
        switch (random.nextInt(5)) {
            case 0:
                both("drop(" + p + ")", () -> hall.drop(p), () -> plain.drop(p));
                break;
            case 1:
                both("parties(" + i + ", " + n + ")", () -> hall.parties(i, n), () -> plain.parties(i, n));
                break;
            case 2:
                both("set(" + i + ", " + n + ")", () -> hall.set(i, n), () -> plain.set(i, n));
                break;
            case 3:
                step(random.nextInt(4), 8);
                break;
            default:
                both("ring(" + t + ")", () -> hall.ring(t), () -> plain.ring(t));
                both("thread(" + t + ", " + n + ")", () -> hall.thread(t, n), () -> plain.thread(t, n));
                both("register(" + t + ", " + n + ")", () -> hall.register(t, n), () -> plain.register(t, n));
                both("monitor(" + i + ", " + n + ")", () -> hall.monitor(i, n), () -> plain.monitor(i, n));
                both("lock(" + i + ", " + n + ")", () -> hall.lock(i, n), () -> plain.lock(i, n));
                both("semaphore(" + i + ", " + n + ")", () -> hall.semaphore(i, n), () -> plain.semaphore(i, n));
                both("barrier(" + i + ", " + n + ")", () -> hall.barrier(i, n), () -> plain.barrier(i, n));
                both("count(" + n + ")", () -> hall.count(n), () -> plain.count(n));
                break;
        }
    }

    private static String answer(Call call) {
        try {
            return Long.toString(call.answer());
        } catch (IllegalArgumentException | IllegalStateException e) {
            return e.getClass().getSimpleName();
        }
    }

    private void both(String what, Call real, Call model) {
        String got = answer(real);
        String due = answer(model);
        told.append('\n').append(what).append(" = ").append(due);
        same &= got.equals(due);
        check.same(what, got, due);
    }

    private void view(String what, long got, long due) {
        if (got != due) {
            same = false;
            check.same(what, got, due);
        }
    }

    private void compareAll() {
        for (int what = 0; what < 8; what++) {
            view("count " + what, hall.count(what), plain.count(what));
        }
        for (int t = 0; t < hall.count(0) && same; t++) {
            view("state " + t, hall.state(t), plain.state(t));
            view("ring " + t, hall.ring(t), plain.ring(t));
            for (int what = 0; what < 8; what++) {
                view("thread " + t + " " + what, hall.thread(t, what), plain.thread(t, what));
            }
            for (int r = 0; r < 4; r++) {
                view("register " + t + " " + r, hall.register(t, r), plain.register(t, r));
            }
        }
        for (int i = 0; i < things; i++) {
            for (int what = 0; what < 6; what++) {
                view("monitor " + i + " " + what, hall.monitor(i, what), plain.monitor(i, what));
            }
            for (int what = 0; what < 5; what++) {
                view("lock " + i + " " + what, hall.lock(i, what), plain.lock(i, what));
            }
            for (int what = 0; what < 2; what++) {
                view("semaphore " + i + " " + what, hall.semaphore(i, what), plain.semaphore(i, what));
            }
            for (int what = 0; what < 4; what++) {
                view("barrier " + i + " " + what, hall.barrier(i, what), plain.barrier(i, what));
            }
        }
        for (int i = 0; i < 32; i++) {
            view("cell " + i, hall.cell(i), plain.cell(i));
        }
        for (int i = 0; i <= Math.min(hall.count(4), 200); i++) {
            view("note " + i, hall.note(i, false), plain.note(i, false));
            view("note " + i, hall.note(i, true), plain.note(i, true));
        }
    }
}
