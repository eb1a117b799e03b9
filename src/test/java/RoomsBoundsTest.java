import java.util.List;
import java.util.function.Supplier;

/** Promises 8 to 12 at their bounds, a test for each sentence that names one. */
public final class RoomsBoundsTest {
    private static final Class<IllegalArgumentException> ARGUMENT = IllegalArgumentException.class;
    private static final Check CHECK = new Check("RoomsBoundsTest");

    public static void main(String[] args) {
        roomsWithoutIntervals();
        roomsUpToForty();
        roomsAsManyAsTheGreatestDepth();
        roomsOneBeginsWhenAnotherEnds();
        roomOfLowestAndHighest();
        roomOfSameBegin();
        roomOfFreeFromTheEndOn();
        roomOfLowestOfSeveral();
        roomOfNoSuchInterval();
        depthTime();
        depthFromBeginUpToEnd();
        depthFromNoneToForty();
        busiestWithoutIntervals();
        busiestLeastTime();
        busiestFirstAndLastTime();
        earliestLength();
        earliestRooms();
        earliestEndsAt1000AtTheLatest();
        earliestLeastTime();
        earliestAllTimesThatItTakes();
        earliestDepthBelowRooms();
        earliestNone();
        earliestWithoutIntervals();
        CHECK.end();
    }

    private static Roomcolour nested() {
        Roomcolour x = new Roomcolour();
        for (int i = 0; i < 40; i++) {
            x.add(i, 1000 - i, 1);
        }
        return x;
    }

    private static void earliestRefused(String what, int length, int rooms) {
        for (Supplier<Roomcolour> maker : List.<Supplier<Roomcolour>>of(Starts::empty,
                Starts::busyDesk, Starts::fortyInARow, Starts::fortyAtOnce)) {
            CHECK.refused("12: " + what, ARGUMENT, maker, x -> x.earliest(length, rooms));
        }
    }

    // ---- promise 8: rooms

    /** "0 without intervals" */
    private static void roomsWithoutIntervals() {
        CHECK.due("8: new", 0, Starts.empty().rooms());
        CHECK.due("8: all removed", 0, Starts.fortyRemoved().rooms());
        Roomcolour x = Starts.one(0, 1, 1);
        CHECK.due("8: the first", 1, x.rooms());
        x.remove(0);
        CHECK.due("8: the only one removed", 0, x.rooms());
    }

    /** "Returns the fewest rooms": from one to forty. */
    private static void roomsUpToForty() {
        Roomcolour x = new Roomcolour();
        for (int i = 1; i <= 40; i++) {
            x.add(0, 1000, 1);
            CHECK.due("8: all at once", i, x.rooms());
        }
        CHECK.due("8: nested", 40, nested().rooms());
        CHECK.due("8: in a row", 1, Starts.fortyInARow().rooms());
        x.remove(39);
        CHECK.due("8: without the last", 39, x.rooms());
    }

    /** "The fewest rooms are as many as the greatest depth": even if just one time has it. */
    private static void roomsAsManyAsTheGreatestDepth() {
        Roomcolour x = Starts.one(0, 500, 1);
        x.add(499, 1000, 1);
        CHECK.due("8: one time in common", 2, x.rooms());
        x.add(499, 500, 1);
        CHECK.due("8: three at this time", 3, x.rooms());
        x.move(2, 498);
        CHECK.due("8: two at each of two times", 2, x.rooms());
        Roomcolour y = Starts.one(0, 1000, 1);
        y.add(0, 1, 1);
        CHECK.due("8: at the first time", 2, y.rooms());
        y.move(1, 999);
        CHECK.due("8: at the last time", 2, y.rooms());
    }

    /** "so one may begin when another one ends" */
    private static void roomsOneBeginsWhenAnotherEnds() {
        Roomcolour x = Starts.one(0, 500, 1);
        x.add(500, 1000, 1);
        CHECK.due("8: one room", 1, x.rooms());
        CHECK.due("9: the room of the one", 0, x.roomOf(0));
        CHECK.due("9: the room of the other", 0, x.roomOf(1));
    }

    // ---- promise 9: roomOf

    /** "each gets the room with the lowest number, from 0 on" */
    private static void roomOfLowestAndHighest() {
        CHECK.due("9: the only one", 0, Starts.one(999, 1000, 1).roomOf(0));
        for (int i = 0; i < 40; i++) {
            CHECK.due("9: at once", i, Starts.fortyAtOnce().roomOf(i));
            CHECK.due("9: nested", i, nested().roomOf(i));
            CHECK.due("9: in a row", 0, Starts.fortyInARow().roomOf(i));
        }
        Roomcolour x = Starts.fortyAtOnce();
        x.remove(0);
        CHECK.due("9: the first one removed", 38, x.roomOf(39));
    }

    /** "by rising begins, those with the same begin by rising numbers" */
    private static void roomOfSameBegin() {
        Roomcolour x = Starts.one(6, 20, 1);
        x.add(5, 6, 1);
        x.add(5, 20, 1);
        x.add(4, 5, 1);
        CHECK.due("9: the least begin", 0, x.roomOf(3));
        CHECK.due("9: same begin, the lower number", 0, x.roomOf(1));
        CHECK.due("9: same begin, the higher number", 1, x.roomOf(2));
        CHECK.due("9: the lowest number, but the greatest begin", 0, x.roomOf(0));
        x.move(0, 5);
        CHECK.due("9: same begin, the lowest number", 0, x.roomOf(0));
        CHECK.due("9: same begin, the next number", 1, x.roomOf(1));
        CHECK.due("9: same begin, the highest number", 2, x.roomOf(2));
    }

    /** "whose intervals so far do not overlap it": not one time longer, and not one shorter. */
    private static void roomOfFreeFromTheEndOn() {
        Roomcolour x = Starts.one(0, 10, 1);
        x.add(10, 20, 1);
        CHECK.due("9: free when the other ends", 0, x.roomOf(1));
        x.move(1, 9);
        CHECK.due("9: taken at its last time", 1, x.roomOf(1));
        x.move(1, 11);
        CHECK.due("9: free behind it", 0, x.roomOf(1));
    }

    /** "the room with the lowest number": not the one that was free first or last. */
    private static void roomOfLowestOfSeveral() {
        Roomcolour x = Starts.one(0, 30, 1);
        x.add(1, 20, 1);
        x.add(2, 10, 1);
        x.add(3, 25, 1);
        x.add(25, 40, 1);
        CHECK.due("9: of three that are free", 1, x.roomOf(4));
        x.move(4, 20);
        CHECK.due("9: of two that are free", 1, x.roomOf(4));
        x.move(4, 19);
        CHECK.due("9: the only one that is free", 2, x.roomOf(4));
        x.move(4, 9);
        CHECK.due("9: a new one", 4, x.roomOf(4));
        x.move(4, 30);
        CHECK.due("9: of all", 0, x.roomOf(4));
    }

    /** "IndexOutOfBoundsException if there is no such interval" */
    private static void roomOfNoSuchInterval() {
        NoSuchInterval.refusedBy(CHECK, "9", Roomcolour::roomOf);
    }

    // ---- promise 10: depth

    /** "time: 0 to 1000" */
    private static void depthTime() {
        Roomcolour x = Starts.fortyAtOnce();
        CHECK.due("10: time 0", 40, x.depth(0));
        CHECK.due("10: time 999", 40, x.depth(999));
        CHECK.due("10: time 1000", 0, x.depth(1000));
        int[] refused = {-1, -2, 1001, 1002, -1000, Integer.MIN_VALUE, Integer.MAX_VALUE};
        for (int time : refused) {
            CHECK.refused("10: time " + time + ", nothing there", ARGUMENT, Starts::empty,
                    y -> y.depth(time));
            CHECK.refused("10: time " + time, ARGUMENT, Starts::busyDesk, y -> y.depth(time));
            CHECK.refused("10: time " + time + ", everything full", ARGUMENT,
                    Starts::fortyAtOnce, y -> y.depth(time));
        }
    }

    /** "it takes the times from its begin up to its end, the end itself not included" */
    private static void depthFromBeginUpToEnd() {
        Roomcolour x = Starts.one(10, 20, 1);
        CHECK.due("10: ahead of the begin", 0, x.depth(9));
        CHECK.due("10: the begin", 1, x.depth(10));
        CHECK.due("10: the last time", 1, x.depth(19));
        CHECK.due("10: the end", 0, x.depth(20));
        x.add(20, 21, 1);
        CHECK.due("10: the end of the one and the begin of the other", 1, x.depth(20));
        CHECK.due("10: the end of the other", 0, x.depth(21));
        x.move(1, 19);
        CHECK.due("10: the last time of both", 2, x.depth(19));
    }

    /** "The depth of a time is the number of intervals that take it" */
    private static void depthFromNoneToForty() {
        Roomcolour x = new Roomcolour();
        for (int i = 0; i < 40; i++) {
            CHECK.due("10: so far", i, x.depth(500));
            x.add(500, 501, 1);
        }
        CHECK.due("10: forty", 40, x.depth(500));
        CHECK.due("10: forty, ahead of them", 0, x.depth(499));
        CHECK.due("10: forty, behind them", 0, x.depth(501));
        CHECK.due("10: all removed", 0, Starts.fortyRemoved().depth(0));
        for (int time = 0; time < 1000; time += 24) {
            CHECK.due("10: in a row", 1, Starts.fortyInARow().depth(time));
        }
    }

    // ---- promise 11: busiest

    /** "NONE without intervals" */
    private static void busiestWithoutIntervals() {
        CHECK.due("11: new", Roomcolour.NONE, Starts.empty().busiest());
        CHECK.due("11: all removed", Roomcolour.NONE, Starts.fortyRemoved().busiest());
        Roomcolour x = Starts.one(0, 1, 1);
        CHECK.due("11: the first", 0, x.busiest());
        x.remove(0);
        CHECK.due("11: the only one removed", Roomcolour.NONE, x.busiest());
    }

    /** "the least time with the greatest depth" */
    private static void busiestLeastTime() {
        Roomcolour x = Starts.one(700, 800, 1);
        x.add(300, 400, 1);
        x.add(500, 600, 1);
        CHECK.due("11: all as deep", 300, x.busiest());
        x.add(799, 801, 1);
        CHECK.due("11: a single time is deeper", 799, x.busiest());
        x.add(599, 600, 1);
        CHECK.due("11: as deep, and less", 599, x.busiest());
        x.add(300, 301, 1);
        CHECK.due("11: as deep, and the least", 300, x.busiest());
        x.remove(5);
        x.remove(1);
        CHECK.due("11: the least is gone", 599, x.busiest());
        CHECK.due("11: forty in a row", 0, Starts.fortyInARow().busiest());
        CHECK.due("11: forty nested", 39, nested().busiest());
    }

    /** "Times are whole numbers from 0 to 1000": the first and the last one that can be deep. */
    private static void busiestFirstAndLastTime() {
        CHECK.due("11: at 0", 0, Starts.one(0, 1000, 1).busiest());
        CHECK.due("11: forty at 0", 0, Starts.fortyAtOnce().busiest());
        Roomcolour x = Starts.one(999, 1000, 1);
        CHECK.due("11: at 999", 999, x.busiest());
        x.add(0, 1000, 1);
        CHECK.due("11: two at 999", 999, x.busiest());
        x.move(0, 0);
        CHECK.due("11: two at 0", 0, x.busiest());
    }

    // ---- promise 12: earliest

    /** "length: 1 to 1000" */
    private static void earliestLength() {
        CHECK.due("12: length 1", 0, Starts.empty().earliest(1, 1));
        CHECK.due("12: length 1000", 0, Starts.empty().earliest(1000, 1));
        CHECK.due("12: length 1, behind another", 999, Starts.one(0, 999, 1).earliest(1, 1));
        CHECK.due("12: length 999, behind another", 1, Starts.one(0, 1, 1).earliest(999, 1));
        earliestRefused("length 0", 0, 1);
        earliestRefused("length -1", -1, 1);
        earliestRefused("length 1001", 1001, 1);
        earliestRefused("least length", Integer.MIN_VALUE, 40);
        earliestRefused("greatest length", Integer.MAX_VALUE, 40);
    }

    /** "rooms: 1 to 40" */
    private static void earliestRooms() {
        CHECK.due("12: rooms 1", 10, Starts.one(0, 10, 1).earliest(1, 1));
        CHECK.due("12: rooms 2", 0, Starts.one(0, 10, 1).earliest(1, 2));
        CHECK.due("12: rooms 40", 0, Starts.one(0, 10, 1).earliest(1000, 40));
        earliestRefused("rooms 0", 1, 0);
        earliestRefused("rooms -1", 1, -1);
        earliestRefused("rooms 41", 1, 41);
        earliestRefused("least rooms", 1000, Integer.MIN_VALUE);
        earliestRefused("greatest rooms", 1000, Integer.MAX_VALUE);
        earliestRefused("both too small", 0, 0);
        earliestRefused("both too great", 1001, 41);
    }

    /** "and end at 1000 at the latest" */
    private static void earliestEndsAt1000AtTheLatest() {
        for (int taken : new int[] {1, 2, 500, 998, 999}) {
            Roomcolour x = Starts.one(0, taken, 1);
            CHECK.due("12: ends at 1000, from " + taken, taken, x.earliest(1000 - taken, 1));
            CHECK.due("12: would end at 1001, from " + taken, -1, x.earliest(1001 - taken, 1));
        }
    }

    /** "the least time at which an interval of a length could begin" */
    private static void earliestLeastTime() {
        Roomcolour x = Starts.one(5, 10, 1);
        x.add(14, 20, 1);
        x.add(25, 990, 1);
        CHECK.due("12: just fits at 0", 0, x.earliest(5, 1));
        CHECK.due("12: just does not fit anywhere else", 990, x.earliest(6, 1));
        CHECK.due("12: fits in the first gap", 0, x.earliest(4, 1));
        x.move(0, 0);
        CHECK.due("12: the gap behind 5", 5, x.earliest(9, 1));
        CHECK.due("12: past the gap", 990, x.earliest(10, 1));
        x.move(0, 3);
        CHECK.due("12: the gap ahead of 3", 0, x.earliest(3, 1));
        CHECK.due("12: the gap from 8 to 14", 8, x.earliest(4, 1));
        CHECK.due("12: all of this gap", 8, x.earliest(6, 1));
        CHECK.due("12: longer than each gap", 990, x.earliest(7, 1));
    }

    /** "so that all times that it takes have a depth below": the first and the last one too. */
    private static void earliestAllTimesThatItTakes() {
        Roomcolour x = Starts.one(0, 1, 1);
        CHECK.due("12: the first time is taken", 1, x.earliest(10, 1));
        x.move(0, 9);
        CHECK.due("12: the last time is taken", 10, x.earliest(10, 1));
        x.move(0, 10);
        CHECK.due("12: the time behind the last one is taken", 0, x.earliest(10, 1));
        x.move(0, 5);
        CHECK.due("12: one time within is taken", 6, x.earliest(10, 1));
        x.move(0, 999);
        CHECK.due("12: the last time of all is taken", -1, x.earliest(1000, 1));
        CHECK.due("12: all times but the last one", 0, x.earliest(999, 1));
    }

    /** "have a depth below a number of rooms" */
    private static void earliestDepthBelowRooms() {
        Roomcolour x = new Roomcolour();
        for (int i = 1; i <= 39; i++) {
            x.add(0, 500, 1);
            CHECK.due("12: as deep as rooms, " + i, 500, x.earliest(1, i));
            CHECK.due("12: one less deep than rooms, " + (i + 1), 0, x.earliest(1000, i + 1));
        }
        x.add(0, 500, 1);
        CHECK.due("12: as deep as rooms, 40", 500, x.earliest(500, 40));
        CHECK.due("12: as deep as rooms, 40, too long behind", -1, x.earliest(501, 40));
    }

    /** "NONE if there is none" */
    private static void earliestNone() {
        CHECK.due("12: all times taken", -1, Starts.one(0, 1000, 1).earliest(1, 1));
        CHECK.due("12: all times taken in a row", -1, Starts.fortyInARow().earliest(1, 1));
        CHECK.due("12: a second room", 0, Starts.fortyInARow().earliest(1000, 2));
        for (int rooms = 1; rooms <= 40; rooms++) {
            CHECK.due("12: all forty taken", -1, Starts.fortyAtOnce().earliest(1, rooms));
        }
        Roomcolour x = Starts.fortyAtOnce();
        x.remove(39);
        CHECK.due("12: one of forty is free", 0, x.earliest(1000, 40));
        CHECK.due("12: no other one is", -1, x.earliest(1, 39));
    }

    /** "All questions are about those that are there": nothing there. */
    private static void earliestWithoutIntervals() {
        CHECK.due("12: all removed", 0, Starts.fortyRemoved().earliest(1000, 1));
        Roomcolour x = Starts.one(0, 1000, 1);
        x.remove(0);
        CHECK.due("12: the only one removed", 0, x.earliest(1000, 1));
    }
}
