import java.util.function.Supplier;

/**
 * "A method throws IndexOutOfBoundsException if there is no interval with a number (or it was
 * removed)": every number that none has, for one method.
 */
final class NoSuchInterval {
    /** A call for the interval with a number. */
    interface Asking {
        void ask(Roomcolour x, int interval);
    }

    private static final Class<IndexOutOfBoundsException> INDEX = IndexOutOfBoundsException.class;
    /** A shift by 32 or 64 more than a number's bit finds the same bit. */
    private static final int[] NEVER_ADDED = {
        -1, 7, 8, 31, 32, 33, 39, 40, 63, 64, 65, 96, -32, -63, -64, Integer.MIN_VALUE,
        Integer.MIN_VALUE + 1, Integer.MAX_VALUE,
    };

    private final Check check;
    private final String method;
    private final Asking asking;

    private NoSuchInterval(Check check, String method, Asking asking) {
        this.check = check;
        this.method = method;
        this.asking = asking;
    }

    static void refusedBy(Check check, String method, Asking asking) {
        NoSuchInterval all = new NoSuchInterval(check, method, asking);
        all.nothingThere();
        all.neverAdded();
        all.removed();
        all.beyondForty();
    }

    private void refuses(String what, Supplier<Roomcolour> maker, int interval) {
        check.refused(method + ", " + what + ": " + interval, INDEX, maker,
                x -> asking.ask(x, interval));
    }

    private void nothingThere() {
        refuses("nothing there", Starts::empty, 0);
        refuses("nothing there", Starts::empty, -1);
        refuses("all removed", Starts::fortyRemoved, 0);
        refuses("all removed", Starts::fortyRemoved, 39);
    }

    private void neverAdded() {
        for (int interval : NEVER_ADDED) {
            refuses("never added", Starts::busyDesk, interval);
        }
    }

    private void removed() {
        refuses("removed", Starts::busyDesk, 3);
        for (int interval : new int[] {0, 31, 32, 39}) {
            refuses("removed of forty", () -> {
                Roomcolour x = Starts.fortyInARow();
                x.remove(interval);
                return x;
            }, interval);
        }
    }

    private void beyondForty() {
        refuses("beyond forty", Starts::fortyInARow, -1);
        refuses("beyond forty", Starts::fortyInARow, 40);
        refuses("beyond forty", Starts::fortyInARow, 64);
    }
}
