import java.util.NoSuchElementException;

/** Compares answers with what is due and tells every one that is not. */
final class Check {
    interface Call {
        int answer();
    }

    /** Answers of exceptions, far from every number that a call may answer. */
    static final int NO_ELEMENT = -1_000_001;
    static final int ARGUMENT = -1_000_002;
    static final int STATE = -1_000_003;
    static final int OTHER = -1_000_004;

    private int wrong = 0;
    private int done = 0;

    /** Exact classes: one that stands above or below the due one is not what the document names. */
    static int outcome(Call call) {
        try {
            return call.answer();
        } catch (RuntimeException e) {
            if (e.getClass() == NoSuchElementException.class) {
                return NO_ELEMENT;
            }
            if (e.getClass() == IllegalArgumentException.class) {
                return ARGUMENT;
            }
            return e.getClass() == IllegalStateException.class ? STATE : OTHER;
        }
    }

    static String shown(int outcome) {
        switch (outcome) {
            case NO_ELEMENT:
                return "throws.NoSuchElementException";
            case ARGUMENT:
                return "throws.IllegalArgumentException";
            case STATE:
                return "throws.IllegalStateException";
            case OTHER:
                return "throws another exception";
            default:
                return Integer.toString(outcome);
        }
    }

    boolean due(String what, int want, Call call) {
        int got = outcome(call);
        done++;
        if (got == want) {
            return true;
        }
        wrong++;
        System.out.println(what + " answered " + shown(got) + ", due is " + shown(want));
        return false;
    }

    void that(String what, boolean holds) {
        done++;
        if (!holds) {
            wrong++;
            System.out.println("not so: " + what);
        }
    }

    void end(String name) {
        System.out.println(name + ": " + done + " answers, " + wrong + " not as due");
        if (wrong != 0) {
            System.exit(1);
        }
    }
}
