import java.util.function.ToLongFunction;

/** "What it is" at its bound: the last of the calls that an object is used for. */
public final class CallsBoundsTest {
    private static final int CALLS = 512;
    private static final Check CHECK = new Check("CallsBoundsTest");

    private int calls;
    private final Roomcolour x = new Roomcolour();
    private final PlainModel model = new PlainModel();

    public static void main(String[] args) {
        lastCallAfterQuestions();
        lastCallAfterChanges();
        CHECK.end();
    }

    private void both(String what, ToLongFunction<Roomcolour> call,
            ToLongFunction<PlainModel> due) {
        calls++;
        CHECK.due("call " + calls + ": " + what, due.applyAsLong(model), call.applyAsLong(x));
    }

    private void add(int begin, int end, int weight) {
        both("add", o -> o.add(begin, end, weight), o -> o.add(begin, end, weight));
    }

    private void change(int round) {
        int i = round % 38;
        switch (round % 4) {
            case 0: both("move", o -> o.move(i, 7 * i), o -> o.move(i, 7 * i)); break;
            case 1: both("openDesk", o -> o.openDesk(100 + i), o -> o.openDesk(100 + i)); break;
            case 2: both("offer", o -> o.offer(i), o -> o.offer(i)); break;
            default: both("offer", o -> o.offer(39), o -> o.offer(39)); break;
        }
    }

    private void ask(int method) {
        switch (method) {
            case 0: add(3, 900, 1000); break;
            case 1: both("remove", o -> o.remove(38), o -> o.remove(38)); break;
            case 2: both("move", o -> o.move(38, 600), o -> o.move(38, 600)); break;
            case 3: both("intervals", o -> o.intervals(), o -> o.intervals()); break;
            case 4: both("present", o -> o.present(), o -> o.present()); break;
            case 5: both("overlapping", o -> o.overlapping(38), o -> o.overlapping(38)); break;
            case 6: both("rooms", o -> o.rooms(), o -> o.rooms()); break;
            case 7: both("roomOf", o -> o.roomOf(38), o -> o.roomOf(38)); break;
            case 8: both("depth", o -> o.depth(100), o -> o.depth(100)); break;
            case 9: both("busiest", o -> o.busiest(), o -> o.busiest()); break;
            case 10: both("earliest", o -> o.earliest(9, 2), o -> o.earliest(9, 2)); break;
            case 11: both("heaviest", o -> o.heaviest(), o -> o.heaviest()); break;
            case 12: both("chosen", o -> o.chosen(), o -> o.chosen()); break;
            case 13: both("most", o -> o.most(), o -> o.most()); break;
            case 14: both("heaviestIn", o -> o.heaviestIn(2), o -> o.heaviestIn(2)); break;
            case 15: both("lossWithout", o -> o.lossWithout(38, 1), o -> o.lossWithout(38, 1)); break;
            case 16: both("openDesk", o -> o.openDesk(400), o -> o.openDesk(400)); break;
            case 17: both("offer", o -> o.offer(38), o -> o.offer(38)); break;
            case 18: both("accepted", o -> o.accepted(), o -> o.accepted()); break;
            case 19: both("acceptedWeight", o -> o.acceptedWeight(), o -> o.acceptedWeight()); break;
            case 20: both("droppedWeight", o -> o.droppedWeight(), o -> o.droppedWeight()); break;
            case 21: both("bestOfOffered", o -> o.bestOfOffered(), o -> o.bestOfOffered()); break;
            case 22: both("depthRound", o -> o.depthRound(100), o -> o.depthRound(100)); break;
            default: both("heaviestRound", o -> o.heaviestRound(100), o -> o.heaviestRound(100));
        }
    }

    private static CallsBoundsTest withThirtyNine() {
        CallsBoundsTest test = new CallsBoundsTest();
        for (int i = 0; i < 39; i++) {
            test.add(10 * i, 10 * i + 5 + i, 500 + i);
        }
        return test;
    }

    /** "An object is used for at most 512 calls after it has been made": each method as the last. */
    private static void lastCallAfterQuestions() {
        for (int last = 0; last < 24; last++) {
            CallsBoundsTest test = withThirtyNine();
            for (int i = 0; test.calls < CALLS - 1; i++) {
                test.ask(3 + i % 13);
            }
            test.ask(last);
            CHECK.due("calls", CALLS, test.calls);
        }
    }

    /** The same when all the calls changed something at the desk or among the intervals. */
    private static void lastCallAfterChanges() {
        for (int last = 1; last < 24; last++) {
            CallsBoundsTest test = withThirtyNine();
            test.add(0, 90, 900);
            for (int i = 0; test.calls < CALLS - 1; i++) {
                test.change(i);
            }
            test.ask(last);
            CHECK.due("calls", CALLS, test.calls);
        }
    }
}
