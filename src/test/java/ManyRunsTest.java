/**
 * Long runs of calls, right and wrong ones mixed, each answer held against the plain model's. The
 * runs come from a fixed sequence, so they are the same each time.
 */
public final class ManyRunsTest {
    /** A call that answers with a number. */
    private interface Question {
        long ask();
    }

    private static final int CALLS = 512;
    private static final Check CHECK = new Check("ManyRunsTest");

    private final long firstSeed;
    private final int lastTime;
    private final int longest;
    private final int heaviest;
    private final boolean manyRooms;
    private long seed;
    private int calls;
    private int added;
    private Roomcolour real;
    private PlainModel model;

    private ManyRunsTest(long seed, int lastTime, int longest, int heaviest, boolean manyRooms) {
        firstSeed = seed;
        this.seed = seed;
        this.lastTime = lastTime;
        this.longest = longest;
        this.heaviest = heaviest;
        this.manyRooms = manyRooms;
    }

    public static void main(String[] args) {
        for (int run = 0; run < 80; run++) {
            new ManyRunsTest(run, 20, 8, 9, true).run();
            new ManyRunsTest(1000 + run, 60, 30, 3, true).run();
            new ManyRunsTest(2000 + run, 100, 20, 1000, false).run();
            new ManyRunsTest(3000 + run, 1000, 60, 20, false).run();
            new ManyRunsTest(4000 + run, 1000, 1000, 1000, false).run();
        }
        CHECK.end();
    }

    private void run() {
        real = new Roomcolour();
        model = new PlainModel();
        int firstAdds = next(45);
        while (calls < CALLS) {
            if (calls < firstAdds) {
                add();
            } else {
                call();
            }
        }
    }

    private int next(int bound) {
        seed = seed * 6364136223846793005L + 1442695040888963407L;
        return (int) Math.floorMod(seed >>> 33, (long) bound);
    }

    /** Mostly from low to high, now and then just outside or far off. */
    private int near(int low, int high) {
        switch (next(40)) {
            case 0: return low - 1;
            case 1: return high + 1;
            case 2: return next(2) == 0 ? Integer.MIN_VALUE : Integer.MAX_VALUE;
            case 3: return low;
            case 4: return high;
            default: return low + next(high - low + 1);
        }
    }

    private int interval() {
        return near(0, Math.max(0, added - 1));
    }

    private void ask(String what, Question ours, Question due) {
        // What later calls answer is free.
        if (calls == CALLS) {
            return;
        }
        calls++;
        String want = answer(due);
        CHECK.due("run " + firstSeed + ": " + what, want, answer(ours));
    }

    private static String answer(Question question) {
        try {
            return Long.toString(question.ask());
        } catch (RuntimeException e) {
            return "throws." + e.getClass().getSimpleName();
        }
    }

    private void add() {
        int begin = near(0, lastTime - 1);
        int end = next(20) == 0 ? near(1, 1000)
                : Math.min(begin, 2000) + 1 + next(longest);
        end = next(20) == 0 ? end : Math.min(end, lastTime);
        int last = end;
        int weight = near(1, heaviest);
        ask("add(" + begin + ", " + last + ", " + weight + ")",
                () -> real.add(begin, last, weight), () -> model.add(begin, last, weight));
        added = Math.min(40, added + 1);
    }

    private void call() {
        switch (next(24)) {
            case 0: add(); break;
            case 1: changeOne(); break;
            case 2: case 3: offerOne(); break;
            case 4: case 5: offerOne(); break;
            case 6: openDesk(); break;
            case 7: case 8: askDesk(); break;
            case 9: case 10: askIntervals(); break;
            case 11: case 12: askRooms(); break;
            case 13: case 14: askTimes(); break;
            case 15: case 16: askOneRoom(); break;
            case 17: case 18: case 19: askManyRooms(); break;
            default: askCircle(); break;
        }
    }

    private void changeOne() {
        int i = interval();
        if (next(4) == 0) {
            ask("remove(" + i + ")", () -> real.remove(i), () -> model.remove(i));
        } else {
            int begin = near(0, lastTime - 1);
            ask("move(" + i + ", " + begin + ")", () -> real.move(i, begin),
                    () -> model.move(i, begin));
        }
    }

    private void offerOne() {
        int i = interval();
        ask("offer(" + i + ")", () -> real.offer(i), () -> model.offer(i));
    }

    private void openDesk() {
        int factor = near(100, next(2) == 0 ? 400 : 120);
        ask("openDesk(" + factor + ")", () -> real.openDesk(factor),
                () -> model.openDesk(factor));
    }

    private void askDesk() {
        ask("accepted()", () -> real.accepted(), () -> model.accepted());
        ask("acceptedWeight()", () -> real.acceptedWeight(), () -> model.acceptedWeight());
        ask("droppedWeight()", () -> real.droppedWeight(), () -> model.droppedWeight());
        ask("bestOfOffered()", () -> real.bestOfOffered(), () -> model.bestOfOffered());
    }

    private void askIntervals() {
        ask("intervals()", () -> real.intervals(), () -> model.intervals());
        ask("present()", () -> real.present(), () -> model.present());
        int i = interval();
        ask("overlapping(" + i + ")", () -> real.overlapping(i), () -> model.overlapping(i));
    }

    private void askRooms() {
        ask("rooms()", () -> real.rooms(), () -> model.rooms());
        int i = interval();
        ask("roomOf(" + i + ")", () -> real.roomOf(i), () -> model.roomOf(i));
        ask("busiest()", () -> real.busiest(), () -> model.busiest());
    }

    private void askTimes() {
        int time = near(0, next(2) == 0 ? lastTime : 1000);
        ask("depth(" + time + ")", () -> real.depth(time), () -> model.depth(time));
        int length = near(1, next(2) == 0 ? longest : 1000);
        int rooms = near(1, next(4) == 0 ? 40 : 8);
        ask("earliest(" + length + ", " + rooms + ")", () -> real.earliest(length, rooms),
                () -> model.earliest(length, rooms));
    }

    private void askOneRoom() {
        ask("heaviest()", () -> real.heaviest(), () -> model.heaviest());
        ask("chosen()", () -> real.chosen(), () -> model.chosen());
        ask("most()", () -> real.most(), () -> model.most());
    }

    private void askManyRooms() {
        int rooms = near(1, manyRooms ? 6 : 3);
        ask("heaviestIn(" + rooms + ")", () -> real.heaviestIn(rooms),
                () -> model.heaviestIn(rooms));
        int i = interval();
        ask("lossWithout(" + i + ", " + rooms + ")", () -> real.lossWithout(i, rooms),
                () -> model.lossWithout(i, rooms));
    }

    private void askCircle() {
        int period = near(1, next(3) == 0 ? 1000 : Math.min(1000, 3 * longest));
        ask("depthRound(" + period + ")", () -> real.depthRound(period),
                () -> model.depthRound(period));
        ask("heaviestRound(" + period + ")", () -> real.heaviestRound(period),
                () -> model.heaviestRound(period));
    }
}
