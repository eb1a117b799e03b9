import java.util.function.Supplier;

/** Promises 24 and 25 at their bounds, a test for each sentence that names one. */
public final class CirclesBoundsTest {
    private static final Class<IllegalArgumentException> ARGUMENT = IllegalArgumentException.class;
    private static final Class<IllegalStateException> STATE = IllegalStateException.class;
    private static final int[] REFUSED_PERIODS = {
        0, -1, -2, -1000, 1001, 1002, 2000, Integer.MIN_VALUE, Integer.MAX_VALUE,
    };
    private static final Check CHECK = new Check("CirclesBoundsTest");

    /** Either promise's question. */
    private interface Question {
        int ask(Roomcolour x, int period);
    }

    private static final String[] NAMES = {"24", "25"};
    private static final Question[] QUESTIONS = {Roomcolour::depthRound, Roomcolour::heaviestRound};

    public static void main(String[] args) {
        periodFrom1();
        periodUpTo1000();
        periodRefused();
        lengthUpToPeriod();
        lengthAbovePeriodRefused();
        lengthOfThoseThatAreThere();
        argumentAheadOfState();
        fromNoneToForty();
        takesTheTimesModuloThePeriod();
        endsAtTheTurn();
        runsPastTheTurn();
        runsPastTheTurnByAllButOne();
        bothRunPastTheTurn();
        manyRunPastTheTurn();
        fullTurn();
        fullTurnPastTheTurn();
        turnsLater();
        everyPeriodAgainstTheModel();
        CHECK.end();
    }

    private static void due(String what, int depth, int heaviest, Roomcolour x, int period) {
        CHECK.due("24: " + what, depth, x.depthRound(period));
        CHECK.due("25: " + what, heaviest, x.heaviestRound(period));
    }

    private static void refused(String what, Class<? extends RuntimeException> want,
            Supplier<Roomcolour> maker, int period) {
        for (int i = 0; i < QUESTIONS.length; i++) {
            Question question = QUESTIONS[i];
            CHECK.refused(NAMES[i] + ": " + what + ", period " + period, want, maker,
                    x -> question.ask(x, period));
        }
    }

    private static Roomcolour two(int begin, int end, int otherBegin, int otherEnd) {
        Roomcolour x = Starts.one(begin, end, 3);
        x.add(otherBegin, otherEnd, 4);
        return x;
    }

    // ---- the arguments and what is refused

    /** "period: 1" */
    private static void periodFrom1() {
        due("period 1, nothing there", 0, 0, Starts.empty(), 1);
        due("period 1", 1, 5, Starts.one(7, 8, 5), 1);
        due("period 1, at 0", 1, 5, Starts.one(0, 1, 5), 1);
        due("period 1, at 999", 1, 5, Starts.one(999, 1000, 5), 1);
        due("period 1, two", 2, 4, two(0, 1, 999, 1000), 1);
        due("period 2, two at the same time", 2, 4, two(0, 1, 998, 999), 2);
        due("period 2, two apart", 1, 7, two(0, 1, 999, 1000), 2);
    }

    /** "to 1000" */
    private static void periodUpTo1000() {
        due("period 1000, nothing there", 0, 0, Starts.empty(), 1000);
        due("period 1000, the longest", 1, 5, Starts.one(0, 1000, 5), 1000);
        due("period 1000, first and last time", 1, 7, two(0, 1, 999, 1000), 1000);
        due("period 999, first and last time", 2, 4, two(0, 1, 999, 1000), 999);
        due("period 1000, halves", 1, 7, two(0, 500, 500, 1000), 1000);
        due("period 999, halves", 2, 4, two(0, 500, 500, 1000), 999);
        due("period 1000, one time in common", 2, 4, two(0, 501, 500, 1000), 1000);
        due("period 999, the longest but one", 1, 5, Starts.one(1, 1000, 5), 999);
    }

    /** "IllegalArgumentException if period is out of range" */
    private static void periodRefused() {
        for (int period : REFUSED_PERIODS) {
            refused("nothing there", ARGUMENT, Starts::empty, period);
            refused("short ones", ARGUMENT, () -> two(0, 1, 999, 1000), period);
            refused("all removed", ARGUMENT, Starts::fortyRemoved, period);
        }
    }

    /** "its length must not be above p" */
    private static void lengthUpToPeriod() {
        for (int length : new int[] {1, 2, 7, 500, 999, 1000}) {
            Roomcolour x = Starts.one(0, length, 9);
            due("as long as the period " + length, 1, 9, x, length);
            x.move(0, 1000 - length);
            due("as long as the period, at the end, " + length, 1, 9, x, length);
            if (length < 1000) {
                due("one shorter than the period " + (length + 1), 1, 9, x, length + 1);
            }
        }
    }

    /** "IllegalStateException if the length of an interval is above period" */
    private static void lengthAbovePeriodRefused() {
        for (int length : new int[] {2, 3, 8, 500, 999, 1000}) {
            refused("one longer", STATE, () -> Starts.one(0, length, 9), length - 1);
            refused("one longer, at the end", STATE, () -> Starts.one(1000 - length, 1000, 9),
                    length - 1);
            refused("far longer", STATE, () -> Starts.one(0, length, 9), 1);
        }
        refused("forty at once", STATE, Starts::fortyAtOnce, 999);
        refused("forty in a row", STATE, Starts::fortyInARow, 24);
        refused("busy desk", STATE, Starts::busyDesk, 9);
        for (int longOne : new int[] {0, 1, 31, 32, 39}) {
            refused("only " + longOne + " is too long", STATE, () -> longAmongForty(longOne), 10);
            Roomcolour x = longAmongForty(longOne);
            due("just long enough for " + longOne, 40, 1000, x, 11);
        }
    }

    /** Forty intervals of the length 10, but for one of the length 11; each takes the time 0. */
    private static Roomcolour longAmongForty(int longOne) {
        Roomcolour x = new Roomcolour();
        for (int i = 0; i < 40; i++) {
            x.add(0, i == longOne ? 11 : 10, 961 + i);
        }
        return x;
    }

    /** "All questions are about those that are there": a removed one may be longer. */
    private static void lengthOfThoseThatAreThere() {
        Roomcolour x = two(0, 1000, 5, 6);
        CHECK.throwing("24: too long", STATE, () -> x.depthRound(999));
        CHECK.throwing("25: too long", STATE, () -> x.heaviestRound(999));
        x.remove(0);
        due("the long one is removed", 1, 4, x, 1);
        x.remove(1);
        due("all removed", 0, 0, x, 1);
        Roomcolour y = longAmongForty(39);
        y.remove(39);
        due("the last one is removed", 39, 999, y, 10);
    }

    /** "if several apply, the one that it lists first is thrown" */
    private static void argumentAheadOfState() {
        for (int period : REFUSED_PERIODS) {
            refused("all too long or out of range", ARGUMENT, Starts::fortyAtOnce, period);
            refused("one too long or out of range", ARGUMENT, Starts::busyDesk, period);
        }
    }

    // ---- the answers

    /** Nothing there, and everything full. */
    private static void fromNoneToForty() {
        for (int period : new int[] {1, 2, 25, 999, 1000}) {
            due("new", 0, 0, Starts.empty(), period);
            due("all removed", 0, 0, Starts.fortyRemoved(), period);
        }
        due("forty at once", 40, 1000, Starts.fortyAtOnce(), 1000);
        due("forty in a row, one turn", 1, 40000, Starts.fortyInARow(), 1000);
        due("forty in a row, almost one turn", 2, 39000, Starts.fortyInARow(), 999);
        due("forty in a row, two turns", 2, 20000, Starts.fortyInARow(), 500);
        due("forty in a row, forty turns", 40, 1000, Starts.fortyInARow(), 25);
        Roomcolour x = new Roomcolour();
        for (int i = 1; i <= 40; i++) {
            x.add(i, i + 1, 1);
            due("so far, period 1", i, 1, x, 1);
            due("so far, period 20", (i + 19) / 20, Math.min(i, 20), x, 20);
            due("so far, period 40", 1, i, x, 40);
        }
    }

    /** "an interval takes the times modulo p", "no time modulo p that both take" */
    private static void takesTheTimesModuloThePeriod() {
        due("begins when the other ends", 1, 7, two(0, 5, 5, 10), 10);
        due("begins when the other ends, a turn later", 1, 7, two(0, 5, 15, 20), 10);
        due("one time too early, a turn later", 2, 4, two(0, 5, 14, 20), 10);
        due("one time too late, a turn later", 2, 4, two(0, 5, 15, 21), 10);
        due("the same times, a turn later", 2, 4, two(0, 5, 10, 15), 10);
        due("the same times, many turns later", 2, 4, two(0, 5, 990, 995), 10);
        due("apart on the line, and on this circle", 1, 7, two(0, 5, 10, 15), 15);
        due("apart on the line, not on this circle", 2, 4, two(0, 5, 10, 15), 14);
    }

    /** "modulo p": an interval that ends just at the turn does not run past it. */
    private static void endsAtTheTurn() {
        due("one ends at the turn, one begins there", 1, 7, two(7, 10, 0, 3), 10);
        due("the other one begins there, a turn later", 1, 7, two(7, 10, 10, 13), 10);
        due("and one fills all between", 1, 7, two(7, 10, 0, 7), 10);
        due("and one takes its last time", 2, 4, two(7, 10, 9, 10), 10);
        due("and one takes its first time", 2, 4, two(7, 10, 0, 8), 10);
        due("two end at the turn", 2, 4, two(7, 10, 18, 20), 10);
    }

    /** "modulo p": an interval that runs past the turn takes the first times too. */
    private static void runsPastTheTurn() {
        due("by one time, and one at it", 2, 4, two(7, 11, 0, 1), 10);
        due("by one time, and one behind it", 1, 7, two(7, 11, 1, 2), 10);
        due("by one time, and all that is left", 1, 7, two(7, 11, 1, 7), 10);
        due("by one time, and one more behind", 2, 4, two(7, 11, 1, 8), 10);
        due("by one time, and one more ahead", 2, 4, two(7, 11, 0, 7), 10);
        due("by one time, a turn later", 1, 7, two(7, 11, 11, 17), 10);
        due("by one time, from ahead of the end", 2, 4, two(7, 11, 20, 21), 10);
        due("by three times, and one at the last of them", 2, 4, two(8, 13, 2, 3), 10);
        due("by three times, and one behind it", 1, 7, two(8, 13, 3, 4), 10);
        due("by three times, and one ahead of its begin", 1, 7, two(8, 13, 7, 8), 10);
        due("by three times, and one at its begin", 2, 4, two(8, 13, 8, 9), 10);
        Roomcolour x = two(8, 13, 3, 5);
        x.add(25, 28, 5);
        due("three round the whole circle", 1, 12, x, 10);
        x.add(9, 10, 6);
        due("the one past the turn is lighter", 2, 15, x, 10);
        x.remove(3);
        x.add(10, 11, 2);
        due("the one past the turn is heavier", 2, 12, x, 10);
        x.add(9, 10, 2);
        due("the two beside the turn are heavier", 2, 13, x, 10);
    }

    /** An interval that begins at the last time of a turn, and one that leaves one time only. */
    private static void runsPastTheTurnByAllButOne() {
        due("begins at the last time", 2, 4, two(9, 18, 9, 10), 10);
        due("leaves one time, which is taken", 1, 7, two(9, 18, 8, 9), 10);
        due("leaves one time, which is taken a turn later", 1, 7, two(9, 18, 18, 19), 10);
        due("leaves one time, another one is taken", 2, 4, two(9, 18, 17, 18), 10);
        due("leaves one time, two are taken", 2, 4, two(9, 18, 7, 9), 10);
        due("a circle of two", 1, 7, two(1, 2, 2, 3), 2);
        due("a circle of two, past the turn", 2, 4, two(1, 3, 4, 5), 2);
    }

    /** Two that run past the turn are never apart. */
    private static void bothRunPastTheTurn() {
        due("both", 2, 4, two(9, 11, 9, 11), 10);
        due("one longer ahead, the other one behind", 2, 4, two(5, 11, 9, 15), 10);
        due("a turn later", 2, 4, two(9, 11, 19, 21), 10);
        Roomcolour x = two(9, 11, 29, 31);
        x.add(49, 51, 6);
        x.add(1, 9, 2);
        due("three, and one between", 3, 8, x, 10);
        x.add(0, 10, 9);
        due("three, and a whole turn", 4, 9, x, 10);
        x.add(0, 5, 5);
        x.add(5, 10, 5);
        due("three, and two halves", 5, 10, x, 10);
    }

    /** All forty run past the turn. */
    private static void manyRunPastTheTurn() {
        Roomcolour x = new Roomcolour();
        for (int i = 0; i < 40; i++) {
            x.add(10 + 20 * i, 31 + 20 * i, 961 + i);
        }
        due("forty, period 21", 40, 1000, x, 21);
        due("forty, period 22", 40, 1000, x, 22);
        Roomcolour y = new Roomcolour();
        for (int i = 0; i < 39; i++) {
            y.add(19 + 20 * i, 22 + 20 * i, 100 + i);
        }
        y.add(2, 19, 50);
        due("thirty-nine and one between", 39, 188, y, 20);
    }

    /** "its length must not be above p": one as long as the circle is apart from none. */
    private static void fullTurn() {
        for (int period : new int[] {1, 2, 7, 500}) {
            for (int time = 0; time < 1000; time += 111) {
                due("one of one time at " + time + ", period " + period, 2, 4,
                        two(0, period, time, time + 1), period);
                due("the heavier one is the turn, period " + period, 2, 4,
                        two(time, time + 1, 0, period), period);
            }
        }
        due("two whole turns", 2, 4, two(0, 7, 7, 14), 7);
    }

    /** A whole turn that does not begin at the turn runs past it. */
    private static void fullTurnPastTheTurn() {
        for (int begin = 0; begin <= 14; begin++) {
            due("from " + begin, 1, 3, Starts.one(begin, begin + 7, 3), 7);
            for (int time = 0; time < 7; time++) {
                due("from " + begin + ", and one at " + time, 2, 4,
                        two(begin, begin + 7, time, time + 1), 7);
            }
            due("from " + begin + ", a longer circle", 1, 7,
                    two(begin, begin + 7, begin + 7, begin + 8), 8);
            due("from " + begin + ", two whole turns", 2, 4,
                    two(begin, begin + 7, 900, 907), 7);
        }
    }

    /** "on a circle": any number of turns later an interval takes the same times. */
    private static void turnsLater() {
        for (int turns = 0; turns <= 98; turns++) {
            Roomcolour x = two(8, 13, 10 * turns + 3, 10 * turns + 8);
            due("the rest of the circle, turns " + turns, 1, 7, x, 10);
            x.move(1, 10 * turns + 2);
            due("one time too early, turns " + turns, 2, 4, x, 10);
            x.move(1, 10 * turns + 4);
            due("one time too late, turns " + turns, 2, 4, x, 10);
        }
    }

    /** Every period that is allowed, for intervals that run past the turn of many of them. */
    private static void everyPeriodAgainstTheModel() {
        Roomcolour x = null;
        PlainModel model = new PlainModel();
        for (int period = 1; period <= 1000; period++) {
            // A fresh object in time: longer intervals, and no more calls than the document allows.
            if (period % 50 == 1) {
                x = new Roomcolour();
                model = new PlainModel();
                for (int i = 0; i < 12; i++) {
                    int length = 1 + i * Math.min(period, 400) / 13;
                    x.add(83 * i % 600, 83 * i % 600 + length, 5 + i * 7 % 11);
                    model.add(83 * i % 600, 83 * i % 600 + length, 5 + i * 7 % 11);
                }
            }
            due("against the model, period " + period, model.depthRound(period),
                    model.heaviestRound(period), x, period);
        }
    }
}
