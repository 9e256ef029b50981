/** Counts what was not as due; an exception is told as a number of its own. */
final class Check {
    static final long NO_ELEMENT = -777000001L;
    static final long ARGUMENT = -777000002L;
    static final long OTHER = -777000003L;

    interface Call {
        long go();
    }

    interface Answer {
        boolean go();
    }

    private final String test;
    private String words = "";
    private int sentences;
    private int wrong;
    private int all;

    Check(String test) {
        this.test = test;
    }

    static long run(Call call) {
        try {
            return call.go();
        } catch (java.util.NoSuchElementException e) {
            return NO_ELEMENT;
        } catch (IllegalArgumentException e) {
            return e.getClass() == IllegalArgumentException.class ? ARGUMENT : OTHER;
        } catch (RuntimeException e) {
            e.printStackTrace(System.out);
            return OTHER;
        }
    }

    /** The words of the document that the answers are asked by; at least one answer has to be looked at. */
    void sentence(String ofDocument, Runnable answers) {
        words = "'" + ofDocument + "': ";
        int before = all;
        answers.run();
        same("answers looked at", 1, all > before ? 1 : 0);
        words = "";
        sentences++;
    }

    void due(String what, long want, Call call) {
        same(what, want, run(call));
    }

    void yes(String what, Answer call) {
        due(what, 1, () -> call.go() ? 1 : 0);
    }

    void no(String what, Answer call) {
        due(what, 0, () -> call.go() ? 1 : 0);
    }

    void missing(String what, Call call) {
        due(what, NO_ELEMENT, call);
    }

    void refused(String what, Call call) {
        due(what, ARGUMENT, call);
    }

    void same(String what, long want, long got) {
        all++;
        if (want != got) {
            wrong++;
            if (wrong <= 40) {
                System.out.println(test + ": " + words + what + " answered " + name(got) + ", due is " + name(want));
            }
        }
    }

    int wrong() {
        return wrong;
    }

    private static String name(long v) {
        if (v == NO_ELEMENT) {
            return "NoSuchElementException";
        }
        if (v == ARGUMENT) {
            return "IllegalArgumentException";
        }
        return v == OTHER ? "another exception" : Long.toString(v);
    }

    void end() {
        String of = sentences > 0 ? " to " + sentences + " sentences" : "";
        System.out.println(test + ": " + all + " answers" + of + ", " + wrong + " wrong");
        if (wrong > 0) {
            System.exit(1);
        }
    }
}
