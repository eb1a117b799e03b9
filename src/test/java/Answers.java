import java.util.function.LongSupplier;

/**
 * All that an object answers from now on, as one text: its questions, then what its desk does, then
 * where moving, adding and removing leads. It takes some 330 calls, so that an object made with up
 * to 180 stays within the 512 of the document, and leaves the object used up.
 */
final class Answers {
    private static final int NUMBERS = 40;
    private static final int[] TIMES = {
        0, 1, 2, 5, 9, 10, 14, 15, 19, 20, 24, 25, 29, 30, 40, 60, 69, 100, 200, 209, 300, 998, 999,
        1000,
    };
    private static final int[] PERIODS = {7, 20, 50, 1000};
    /** Offered at one place in turn, these tell the factors 100, 150 and 400 from all others. */
    private static final int[] RIVALS = {100, 101, 150, 151, 400, 401};

    private final Roomcolour x;
    private final StringBuilder text = new StringBuilder();

    private Answers(Roomcolour x) {
        this.x = x;
    }

    static String toTheEnd(Roomcolour x) {
        Answers answers = new Answers(x);
        answers.questions();
        answers.offers();
        answers.changes();
        return answers.text.toString();
    }

    private void put(LongSupplier call) {
        try {
            text.append(' ').append(call.getAsLong());
        } catch (RuntimeException e) {
            text.append(' ').append(e.getClass().getSimpleName());
        }
    }

    private void questions() {
        text.append("sets");
        put(x::intervals);
        put(x::present);
        put(x::rooms);
        put(x::busiest);
        put(x::heaviest);
        put(x::chosen);
        put(x::most);
        text.append(" each");
        long present = x.present();
        for (int i = 0; i < NUMBERS; i++) {
            if ((present >> i & 1) != 0) {
                int number = i;
                put(() -> x.overlapping(number));
                put(() -> x.roomOf(number));
                put(() -> x.lossWithout(number, 6));
            }
        }
        text.append(" depths");
        for (int time : TIMES) {
            put(() -> x.depth(time));
        }
        text.append(" circles");
        for (int period : PERIODS) {
            put(() -> x.depthRound(period));
            put(() -> x.heaviestRound(period));
        }
    }

    private void desk() {
        text.append(" desk");
        put(x::accepted);
        put(x::acceptedWeight);
        put(x::droppedWeight);
        put(x::bestOfOffered);
    }

    private void offers() {
        desk();
        text.append(" offers");
        for (int i = 0; i < NUMBERS; i++) {
            int number = i;
            put(() -> x.offer(number));
        }
        desk();
    }

    private void changes() {
        text.append(" moves");
        for (int i = 0; i < NUMBERS; i++) {
            int number = i;
            put(() -> x.move(number, 0));
        }
        for (int time : TIMES) {
            put(() -> x.depth(time));
        }
        text.append(" adds");
        for (int weight : RIVALS) {
            put(() -> x.offer(x.add(999, 1000, weight)));
        }
        text.append(" removals");
        for (int i = 0; i < NUMBERS; i++) {
            int number = i;
            put(() -> x.remove(number));
        }
        desk();
        put(() -> x.openDesk(100));
    }
}
