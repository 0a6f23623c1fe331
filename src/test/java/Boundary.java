import java.lang.reflect.InvocationTargetException;
import java.lang.reflect.Method;
import java.lang.reflect.Modifier;
import java.util.TreeMap;
import java.util.function.Supplier;

/**
 * What the tests of boundaries share. Each test is a method whose name begins with the promise that it belongs to,
 * as in promise08PassTo2000, and goes on with the sentence that it holds the class to.
 */
abstract class Boundary {
    private static final int MANY = 1000000007;

    interface Call {
        long on(LeaseBook book);
    }

    interface NumberCall {
        long on(LeaseBook book, int number);
    }

    private final Check check = new Check();
    private String test = "";

    /** Runs every test of the class, and asks for one at least for each promise from the first to the last. */
    final void runAll(int first, int last) {
        TreeMap<String, Method> tests = new TreeMap<>();
        for (Method method : getClass().getDeclaredMethods()) {
            if (method.getName().matches("promise[0-9]{2}.*")) {
                tests.put(method.getName(), method);
            }
        }
        for (int promise = first; promise <= last; promise++) {
            String name = String.format("promise%02d", promise);
            check.holds("a test of " + name, tests.keySet().stream().anyMatch(key -> key.startsWith(name)));
        }
        for (Method method : tests.values()) {
            run(method);
        }
        System.out.println(getClass().getName() + ": " + tests.size() + " tests");
        check.end(getClass().getName());
    }

    private void run(Method method) {
        test = method.getName();
        int looked = check.looked();
        check.holds(test + " is an own method without arguments",
                method.getParameterCount() == 0 && !Modifier.isStatic(method.getModifiers()));
        try {
            method.invoke(this);
        } catch (InvocationTargetException e) {
            check.same(test, "an exception: " + e.getCause(), "no exception");
        } catch (IllegalAccessException e) {
            check.same(test, "not to be called", "called");
        }
        check.holds(test + " looks at an answer", check.looked() > looked + 1);
    }

    final void due(String what, long got, long want) {
        check.due(test + ", " + what, got, want);
    }

    /** The call answers this, whatever it changes. */
    final void due(String what, LeaseBook book, Call call, long want) {
        check.same(test + ", " + what, Check.outcome(() -> call.on(book)), Long.toString(want));
    }

    final void dueShare(String what, LeaseBook book, double want) {
        due(what, Double.doubleToRawLongBits(book.offShare()), Double.doubleToRawLongBits(want));
    }

    /** The call throws exactly this, and nothing is changed. */
    final void refused(String what, LeaseBook book, Call call, String exception) {
        long ahead = book.digest();
        check.same(test + ", " + what, Check.outcome(() -> call.on(book)), exception);
        due(what + " changes nothing", book.digest(), ahead);
    }

    /** The call answers this, and nothing is changed. */
    final void looks(String what, LeaseBook book, Call call, long want) {
        long ahead = book.digest();
        due(what, book, call, want);
        due(what + " changes nothing", book.digest(), ahead);
    }

    /** On new registers the call takes the numbers from the least to the most, and no others. */
    final void takes(int least, int most, Supplier<LeaseBook> make, NumberCall call) {
        for (int number : new int[] {least, least + 1, most - 1, most}) {
            LeaseBook book = make.get();
            String got = Check.outcome(() -> call.on(book, number));
            check.same(test + ", " + number + " is taken", got.endsWith("Exception") ? got : "taken", "taken");
        }
        for (int number : outside(least, most)) {
            refused("" + number, make.get(), book -> call.on(book, number), Check.ARGUMENT);
        }
    }

    static int[] outside(int least, int most) {
        return new int[] {least - 1, most + 1, -MANY, MANY, Integer.MIN_VALUE, Integer.MAX_VALUE};
    }

    /** The call takes the numbers of leases that there are, the last one too, and no others. */
    final void leaseIsThere(NumberCall call) {
        refused("lease 0 of none", new LeaseBook(), book -> call.on(book, 0), Check.INDEX);
        for (int number : outside(0, 7)) {
            refused("lease " + number + " of 8", Books.full(), book -> call.on(book, number), Check.INDEX);
        }
        refused("lease 1 of 1", Books.three(), book -> call.on(book, 1), Check.INDEX);
        LeaseBook undone = Books.full();
        undone.undo();
        refused("lease 7 when it is undone", undone, book -> call.on(book, 7), Check.INDEX);
        String last = Check.outcome(() -> call.on(Books.full(), 7));
        check.holds(test + ", lease 7 of 8 is there: " + last, !last.endsWith("Exception"));
    }
}
