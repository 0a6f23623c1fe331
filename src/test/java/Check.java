import java.util.function.LongSupplier;

/** Counts the answers that are not as due, and prints each of them. */
final class Check {
    static final String INDEX = "IndexOutOfBoundsException";
    static final String ARGUMENT = "IllegalArgumentException";
    static final String STATE = "IllegalStateException";

    private int wrong;
    private int looked;

    void due(String call, long got, long want) {
        same(call, Long.toString(got), Long.toString(want));
    }

    void same(String call, String got, String want) {
        looked++;
        if (!got.equals(want)) {
            wrong++;
            if (wrong <= 50) {
                System.out.println(call + " answered " + got + ", due is " + want);
            }
        }
    }

    void holds(String what, boolean holds) {
        same(what, Boolean.toString(holds), "true");
    }

    /** Exactly this class: the machine's own exceptions are of classes below it. */
    void throwing(String call, LongSupplier answer, String exception) {
        same(call, outcome(answer), exception);
    }

    static String outcome(LongSupplier answer) {
        try {
            return Long.toString(answer.getAsLong());
        } catch (RuntimeException e) {
            return e.getClass().getSimpleName();
        }
    }

    int looked() {
        return looked;
    }

    boolean anyWrong() {
        return wrong > 0;
    }

    void end(String name) {
        System.out.println(name + ": " + looked + " answers, " + wrong + " not as due");
        if (wrong > 0) {
            System.exit(1);
        }
    }
}
