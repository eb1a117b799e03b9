import java.util.function.Consumer;
import java.util.function.Supplier;

/** Counts the answers that are due and those that are not, for one test program. */
final class Check {
    /** A call whose answer does not matter, as it should throw. */
    interface Call {
        void run();
    }

    private final String test;
    private int passed;
    private int failed;

    Check(String test) {
        this.test = test;
    }

    void due(String what, long want, long got) {
        note(want == got, what + " answered " + got + ", due is " + want);
    }

    void due(String what, String want, String got) {
        note(want.equals(got), what + " answered " + got + ", due is " + want);
    }

    /** The call must throw just this class. */
    void throwing(String what, Class<? extends RuntimeException> want, Call call) {
        due(what, want.getSimpleName(), thrownBy(call));
    }

    /**
     * The call must throw just this class and change nothing: all that the object does after it is
     * held against a twin that was never asked.
     */
    void refused(String what, Class<? extends RuntimeException> want, Supplier<Roomcolour> maker,
            Consumer<Roomcolour> call) {
        Roomcolour asked = maker.get();
        throwing(what, want, () -> call.accept(asked));
        due(what + ": all that comes after it", Answers.toTheEnd(maker.get()),
                Answers.toTheEnd(asked));
    }

    private static String thrownBy(Call call) {
        try {
            call.run();
            return "nothing";
        } catch (RuntimeException e) {
            return e.getClass().getSimpleName();
        }
    }

    private void note(boolean right, String fault) {
        if (right) {
            passed++;
        } else {
            failed++;
            System.out.println(test + ": " + fault);
        }
    }

    void end() {
        System.out.println(test + ": " + passed + " passed, " + failed + " failed");
        if (failed > 0 || passed == 0) {
            System.exit(1);
        }
    }
}
