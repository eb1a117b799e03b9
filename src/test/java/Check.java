/** Counts the answers that are due and those that are not, for one test program. */
final class Check {
    /** A call whose answer does not matter, as it should throw. */
    interface Call {
        void run();
    }

    private final String test;
    private int passed;
    private int failed;

    Check(String test) {
        this.test = test;
    }

    void due(String what, long want, long got) {
        note(want == got, what + " answered " + got + ", due is " + want);
    }

    void due(String what, String want, String got) {
        note(want.equals(got), what + " answered " + got + ", due is " + want);
    }

    /** The call must throw just this class, and no question about x may be answered otherwise. */
    void throwsAndKeeps(String what, Class<? extends RuntimeException> want, Roomcolour x,
            Call call) {
        String before = Answers.of(x);
        due(what, want.getSimpleName(), thrownBy(call));
        due(what + ": all answers after it", before, Answers.of(x));
    }

    private static String thrownBy(Call call) {
        try {
            call.run();
            return "nothing";
        } catch (RuntimeException e) {
            return e.getClass().getSimpleName();
        }
    }

    private void note(boolean right, String fault) {
        if (right) {
            passed++;
        } else {
            failed++;
            System.out.println(test + ": " + fault);
        }
    }

    void end() {
        System.out.println(test + ": " + passed + " passed, " + failed + " failed");
        if (failed > 0 || passed == 0) {
            System.exit(1);
        }
    }
}
