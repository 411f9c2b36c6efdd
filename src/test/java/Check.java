/** Counts the answers that are not the ones that are due; a test makes one and ends with finish(). */
final class Check {
    interface Call {
        long answer();
    }

    private final String name;
    private String sentence = "";
    private int wrong = 0;
    private int seen = 0;

    Check(String name) {
        this.name = name;
    }

    /** The document's words by which the answers behind this call are due; what is wrong is told with them. */
    void sentence(String words) {
        sentence = " by \"" + words + "\"";
    }

    void same(String what, long got, long due) {
        seen++;
        if (got != due) {
            tell(what, Long.toString(got), Long.toString(due));
        }
    }

    void same(String what, String got, String due) {
        seen++;
        if (!got.equals(due)) {
            tell(what, got, due);
        }
    }

    void bad(String what, Call call) {
        throwsIt(what, IllegalArgumentException.class, call);
    }

    void refused(String what, Call call) {
        throwsIt(what, IllegalStateException.class, call);
    }

    private void throwsIt(String what, Class<?> due, Call call) {
        seen++;
        try {
            tell(what, Long.toString(call.answer()), due.getSimpleName());
        } catch (RuntimeException e) {
            if (e.getClass() != due) {
                tell(what, e.toString(), due.getSimpleName());
            }
        }
    }

    private void tell(String what, String got, String due) {
        wrong++;
        System.out.println(name + ": " + what + " answered " + got + ", due is " + due + sentence);
    }

    void finish() {
        System.out.println(name + ": " + seen + " answers, " + wrong + " wrong");
        if (wrong > 0 || seen == 0) {
            System.exit(1);
        }
    }
}
