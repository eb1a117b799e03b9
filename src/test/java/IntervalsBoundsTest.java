import java.util.function.Supplier;

/** Promises 1 to 7 at their bounds, a test for each sentence that names one. */
public final class IntervalsBoundsTest {
    private static final Class<IllegalArgumentException> ARGUMENT = IllegalArgumentException.class;
    private static final Class<IllegalStateException> STATE = IllegalStateException.class;
    private static final Class<IndexOutOfBoundsException> INDEX = IndexOutOfBoundsException.class;
    private static final long ALL = (1L << 40) - 1;
    private static final Check CHECK = new Check("IntervalsBoundsTest");

    public static void main(String[] args) {
        newNoIntervals();
        newDeskIsOpen();
        newDeskHasFactor100();
        addBegin();
        addEndAboveBegin();
        addEndUpTo1000();
        addWeight();
        addReturnsItsNumber();
        addAtMostForty();
        addRemovedOnesIncluded();
        addArgumentAheadOfState();
        addRefusedChangesNothing();
        removeReturnsHowManyAreLeft();
        removeAcceptedWithoutBeingDropped();
        removeNoSuchInterval();
        moveBegin();
        moveEndUpTo1000();
        movePerhapsToItsBegin();
        moveKeepsItsLength();
        moveAcceptedIsNotAnyMore();
        moveOtherwiseNothingChangesThere();
        moveNoSuchInterval();
        moveIndexAheadOfArgument();
        intervalsFromNoneToForty();
        presentFromNoneToForty();
        overlappingNoneAndAllOthers();
        overlappingOneTimeInCommon();
        overlappingNoSuchInterval();
        CHECK.end();
    }

    private static void addRefused(String what, int begin, int end, int weight) {
        CHECK.refused("2: " + what, ARGUMENT, Starts::empty, x -> x.add(begin, end, weight));
        CHECK.refused("2: " + what + ", among others", ARGUMENT, Starts::busyDesk,
                x -> x.add(begin, end, weight));
    }

    private static void moveRefused(String what, Supplier<Roomcolour> maker, int interval,
            int begin) {
        CHECK.refused("4: " + what, ARGUMENT, maker, x -> x.move(interval, begin));
    }

    // ---- promise 1: a new object

    /** "No intervals" */
    private static void newNoIntervals() {
        Roomcolour x = new Roomcolour();
        CHECK.due("1: NONE", -1, Roomcolour.NONE);
        CHECK.due("1: intervals", 0, x.intervals());
        CHECK.due("1: present", 0, x.present());
        CHECK.due("1: rooms", 0, x.rooms());
        CHECK.due("1: busiest", -1, x.busiest());
        CHECK.due("1: heaviest", 0, x.heaviest());
        CHECK.due("1: chosen", 0, x.chosen());
        CHECK.due("1: most", 0, x.most());
        CHECK.due("1: the first number is free", 0, x.add(0, 1, 1));
    }

    /** "the desk is open" */
    private static void newDeskIsOpen() {
        Roomcolour x = new Roomcolour();
        CHECK.due("1: accepted", 0, x.accepted());
        CHECK.due("1: acceptedWeight", 0, x.acceptedWeight());
        CHECK.due("1: droppedWeight", 0, x.droppedWeight());
        CHECK.due("1: bestOfOffered", 0, x.bestOfOffered());
        x.add(0, 10, 1);
        CHECK.due("1: takes an offer at once", 0, x.offer(0));
        CHECK.due("1: accepts it", 1, x.accepted());
    }

    /** "with the factor 100": one as heavy as its rival is not accepted, one heavier by 1 is. */
    private static void newDeskHasFactor100() {
        Roomcolour x = new Roomcolour();
        x.add(0, 10, 999);
        x.add(5, 15, 999);
        x.add(5, 15, 1000);
        x.offer(0);
        CHECK.due("1: not below 100", -1, x.offer(1));
        CHECK.due("1: not above 100", 999, x.offer(2));
    }

    // ---- promise 2: add

    /** "begin: 0 to 999" */
    private static void addBegin() {
        CHECK.due("2: begin 0", 1, Starts.one(0, 1000, 1).depth(0));
        Roomcolour x = Starts.one(999, 1000, 1);
        CHECK.due("2: begin 999", 1, x.depth(999));
        CHECK.due("2: not ahead of it", 0, x.depth(998));
        addRefused("begin -1", -1, 5, 1);
        addRefused("begin -1, end 0", -1, 0, 1);
        addRefused("begin 1000, end 1000", 1000, 1000, 1);
        addRefused("begin 1000, end 1001", 1000, 1001, 1);
        addRefused("begin 1001, end 1000", 1001, 1000, 1);
        addRefused("least begin", Integer.MIN_VALUE, 5, 1);
        addRefused("greatest begin", Integer.MAX_VALUE, 5, 1);
        addRefused("greatest begin, least end", Integer.MAX_VALUE, Integer.MIN_VALUE, 1);
    }

    /** "end: begin + 1" */
    private static void addEndAboveBegin() {
        for (int begin : new int[] {0, 1, 500, 998, 999}) {
            Roomcolour x = Starts.one(begin, begin + 1, 1);
            CHECK.due("2: end " + begin + " + 1", 1, x.intervals());
            CHECK.due("2: its only time", 1, x.depth(begin));
            CHECK.due("2: its end", 0, x.depth(begin + 1));
            addRefused("end as begin " + begin, begin, begin, 1);
            addRefused("end below begin " + begin, begin, begin - 1, 1);
        }
        addRefused("end 0", 0, 0, 1);
        addRefused("least end", 0, Integer.MIN_VALUE, 1);
    }

    /** "to 1000" */
    private static void addEndUpTo1000() {
        for (int begin : new int[] {0, 1, 500, 998, 999}) {
            Roomcolour x = Starts.one(begin, 1000, 1);
            CHECK.due("2: end 1000, begin " + begin, 1, x.depth(999));
            CHECK.due("2: 1000 is not taken, begin " + begin, 0, x.depth(1000));
            addRefused("end 1001, begin " + begin, begin, 1001, 1);
            addRefused("greatest end, begin " + begin, begin, Integer.MAX_VALUE, 1);
        }
        CHECK.due("2: end 999", 0, Starts.one(0, 999, 1).depth(999));
    }

    /** "weight: 1 to 1000" */
    private static void addWeight() {
        CHECK.due("2: weight 1", 1, Starts.one(0, 1, 1).heaviest());
        CHECK.due("2: weight 1000", 1000, Starts.one(0, 1, 1000).heaviest());
        CHECK.due("2: weight 2", 2, Starts.one(0, 1, 2).heaviest());
        CHECK.due("2: weight 999", 999, Starts.one(0, 1, 999).heaviest());
        addRefused("weight 0", 0, 1, 0);
        addRefused("weight 1001", 0, 1, 1001);
        addRefused("weight -1", 0, 1, -1);
        addRefused("weight -1000", 0, 1, -1000);
        addRefused("least weight", 0, 1, Integer.MIN_VALUE);
        addRefused("greatest weight", 0, 1, Integer.MAX_VALUE);
        addRefused("all arguments", -1, -1, 0);
    }

    /** "Returns its number", "numbered from 0 in the order in which they are added" */
    private static void addReturnsItsNumber() {
        Roomcolour x = new Roomcolour();
        for (int i = 0; i < 40; i++) {
            CHECK.due("2: number", i, x.add(40 - i, 41 - i, 1));
        }
        Roomcolour y = new Roomcolour();
        for (int i = 0; i < 40; i++) {
            CHECK.due("2: number, the others removed", i, y.add(0, 1, 1));
            y.remove(i);
        }
    }

    /** "IllegalStateException if 40 have been added" */
    private static void addAtMostForty() {
        Roomcolour x = new Roomcolour();
        for (int i = 0; i < 39; i++) {
            x.add(0, 1, 1);
        }
        CHECK.due("2: after 39", 39, x.add(0, 1, 1));
        CHECK.due("2: forty", 40, x.intervals());
        CHECK.refused("2: after 40", STATE, Starts::fortyInARow, y -> y.add(0, 1, 1));
        CHECK.refused("2: after 40, greatest", STATE, Starts::fortyAtOnce,
                y -> y.add(999, 1000, 1000));
    }

    /** "at most 40 are added, removed ones included" */
    private static void addRemovedOnesIncluded() {
        Roomcolour x = new Roomcolour();
        for (int i = 0; i < 39; i++) {
            x.add(0, 1, 1);
            x.remove(i);
        }
        CHECK.due("2: after 39 that were removed", 39, x.add(0, 1, 1));
        CHECK.refused("2: after 40 that were removed", STATE, Starts::fortyRemoved,
                y -> y.add(0, 1, 1));
        CHECK.refused("2: after 40, the last one removed", STATE, () -> {
            Roomcolour y = Starts.fortyInARow();
            y.remove(39);
            return y;
        }, y -> y.add(0, 1, 1));
    }

    /** "if several apply, the one that it lists first is thrown" */
    private static void addArgumentAheadOfState() {
        CHECK.refused("2: full, begin -1", ARGUMENT, Starts::fortyInARow, x -> x.add(-1, 1, 1));
        CHECK.refused("2: full, begin 1000", ARGUMENT, Starts::fortyInARow,
                x -> x.add(1000, 1001, 1));
        CHECK.refused("2: full, end as begin", ARGUMENT, Starts::fortyInARow, x -> x.add(5, 5, 1));
        CHECK.refused("2: full, end 1001", ARGUMENT, Starts::fortyInARow, x -> x.add(5, 1001, 1));
        CHECK.refused("2: full, weight 0", ARGUMENT, Starts::fortyInARow, x -> x.add(5, 6, 0));
        CHECK.refused("2: full, weight 1001", ARGUMENT, Starts::fortyRemoved,
                x -> x.add(5, 6, 1001));
    }

    /** "A call that throws changes nothing" */
    private static void addRefusedChangesNothing() {
        Roomcolour x = new Roomcolour();
        for (int i = 0; i < 50; i++) {
            CHECK.throwing("2: refused", ARGUMENT, () -> x.add(0, 1, 0));
        }
        CHECK.due("2: refused ones take no number", 0, x.add(0, 1, 1));
        CHECK.due("2: and are not there", 1, x.intervals());
    }

    // ---- promise 3: remove

    /** "Returns how many are left" */
    private static void removeReturnsHowManyAreLeft() {
        Roomcolour x = Starts.fortyInARow();
        for (int i = 0; i < 40; i++) {
            CHECK.due("3: left, the first one removed", 39 - i, x.remove(i));
        }
        CHECK.due("3: none is there", 0, x.present());
        Roomcolour y = Starts.fortyInARow();
        for (int i = 39; i >= 0; i--) {
            CHECK.due("3: left, the last one removed", i, y.remove(i));
            CHECK.due("3: the others are there", (1L << i) - 1, y.present());
        }
        CHECK.due("3: the only one", 0, Starts.one(0, 1, 1).remove(0));
    }

    /** "An interval that is removed is not accepted any more, without being dropped" */
    private static void removeAcceptedWithoutBeingDropped() {
        Roomcolour x = Starts.busyDesk();
        CHECK.due("3: accepted ahead", 0b1000010, x.accepted());
        CHECK.due("3: dropped ahead", 5, x.droppedWeight());
        x.remove(6);
        CHECK.due("3: not accepted any more", 0b0000010, x.accepted());
        CHECK.due("3: nor its weight", 8, x.acceptedWeight());
        x.remove(1);
        CHECK.due("3: none is accepted any more", 0, x.accepted());
        CHECK.due("3: the removed ones were not dropped", 5, x.droppedWeight());
        x.remove(0);
        CHECK.due("3: the dropped one was", 5, x.droppedWeight());
        CHECK.due("3: nothing was accepted", 0, x.openDesk(100));
    }

    /** "IndexOutOfBoundsException if there is no such interval" */
    private static void removeNoSuchInterval() {
        NoSuchInterval.refusedBy(CHECK, "3", Roomcolour::remove);
    }

    // ---- promise 4: move

    /** "begin: 0 to 999" */
    private static void moveBegin() {
        Roomcolour x = Starts.one(500, 501, 1);
        CHECK.due("4: to 0", 500, x.move(0, 0));
        CHECK.due("4: is at 0", 1, x.depth(0));
        CHECK.due("4: to 999", 0, x.move(0, 999));
        CHECK.due("4: is at 999", 1, x.depth(999));
        CHECK.due("4: to 1", 999, x.move(0, 1));
        Supplier<Roomcolour> shortest = () -> Starts.one(500, 501, 1);
        moveRefused("to -1", shortest, 0, -1);
        moveRefused("to 1000", shortest, 0, 1000);
        moveRefused("to 1001", shortest, 0, 1001);
        moveRefused("to the least", shortest, 0, Integer.MIN_VALUE);
        moveRefused("to the greatest", shortest, 0, Integer.MAX_VALUE);
        moveRefused("to the greatest but one", shortest, 0, Integer.MAX_VALUE - 1);
        moveRefused("accepted, to -1", Starts::busyDesk, 1, -1);
        moveRefused("accepted, to 1000", Starts::busyDesk, 1, 1000);
    }

    /** "or the end would be above 1000" */
    private static void moveEndUpTo1000() {
        for (int length : new int[] {1, 2, 10, 500, 999, 1000}) {
            Roomcolour x = Starts.one(0, length, 1);
            CHECK.due("4: end 1000, length " + length, 0, x.move(0, 1000 - length));
            CHECK.due("4: at the last time, length " + length, 1, x.depth(999));
            CHECK.due("4: back, length " + length, 1000 - length, x.move(0, 0));
            moveRefused("end 1001, length " + length, () -> Starts.one(0, length, 1), 0,
                    1001 - length);
        }
        for (int length : new int[] {2, 3, 999, 1000}) {
            moveRefused("to 999, length " + length, () -> Starts.one(0, length, 1), 0, 999);
        }
        moveRefused("accepted, end 1001", Starts::busyDesk, 1, 991);
        moveRefused("accepted, end far above", Starts::busyDesk, 1, Integer.MAX_VALUE);
    }

    /** "perhaps to the begin that it has" */
    private static void movePerhapsToItsBegin() {
        Roomcolour x = Starts.one(0, 1000, 5);
        CHECK.due("4: to its own begin", 0, x.move(0, 0));
        CHECK.due("4: still from its begin", 1, x.depth(0));
        CHECK.due("4: still to its end", 1, x.depth(999));
        Roomcolour y = Starts.one(999, 1000, 5);
        CHECK.due("4: to its own begin 999", 999, y.move(0, 999));
        CHECK.due("4: still there", 1, y.depth(999));
    }

    /** "and keeps its length" */
    private static void moveKeepsItsLength() {
        Roomcolour x = Starts.one(990, 1000, 5);
        x.move(0, 0);
        CHECK.due("4: its last time", 1, x.depth(9));
        CHECK.due("4: its end", 0, x.depth(10));
        CHECK.due("4: not where it was", 0, x.depth(990));
        CHECK.due("4: keeps its weight", 5, x.heaviest());
        x.move(0, 989);
        CHECK.due("4: ahead of its begin", 0, x.depth(988));
        CHECK.due("4: its begin", 1, x.depth(989));
        CHECK.due("4: its last time again", 1, x.depth(998));
        CHECK.due("4: its end again", 0, x.depth(999));
    }

    /** "If it was accepted at the desk, it is not any more, without being dropped" */
    private static void moveAcceptedIsNotAnyMore() {
        Roomcolour x = Starts.busyDesk();
        CHECK.due("4: to its own begin", 300, x.move(6, 300));
        CHECK.due("4: is not accepted any more", 0b0000010, x.accepted());
        CHECK.due("4: elsewhere", 15, x.move(1, 990));
        CHECK.due("4: none is accepted any more", 0, x.accepted());
        CHECK.due("4: none weighs", 0, x.acceptedWeight());
        CHECK.due("4: without being dropped", 5, x.droppedWeight());
        CHECK.throwing("4: was offered all the same", STATE, () -> x.offer(6));
        CHECK.due("4: nor does it weigh when the desk is opened anew", 0, x.openDesk(100));
    }

    /** "otherwise nothing changes there": dropped, rejected and never offered ones. */
    private static void moveOtherwiseNothingChangesThere() {
        Roomcolour x = Starts.busyDesk();
        x.move(0, 15);
        x.move(2, 15);
        x.move(4, 15);
        x.move(5, 15);
        CHECK.due("4: the same are accepted", 0b1000010, x.accepted());
        CHECK.due("4: with the same weight", 9, x.acceptedWeight());
        CHECK.due("4: the same was dropped", 5, x.droppedWeight());
        CHECK.throwing("4: dropped, offered already", STATE, () -> x.offer(0));
        CHECK.throwing("4: rejected, offered already", STATE, () -> x.offer(2));
        CHECK.throwing("4: moved, offered already", STATE, () -> x.offer(5));
        CHECK.due("4: never offered, offered where it is", -1, x.offer(4));
    }

    /** "IndexOutOfBoundsException if there is no such interval" */
    private static void moveNoSuchInterval() {
        NoSuchInterval.refusedBy(CHECK, "4", (x, interval) -> x.move(interval, 0));
    }

    /** "if several apply, the one that it lists first is thrown" */
    private static void moveIndexAheadOfArgument() {
        NoSuchInterval.refusedBy(CHECK, "4, to -1", (x, interval) -> x.move(interval, -1));
        NoSuchInterval.refusedBy(CHECK, "4, to 1000", (x, interval) -> x.move(interval, 1000));
        CHECK.refused("4: removed, its end would be above 1000", INDEX, Starts::busyDesk,
                x -> x.move(3, 999));
    }

    // ---- promises 5 and 6: intervals and present

    /** "Returns the number of intervals that are there" */
    private static void intervalsFromNoneToForty() {
        Roomcolour x = new Roomcolour();
        for (int i = 0; i < 40; i++) {
            CHECK.due("5: so far", i, x.intervals());
            x.add(0, 1000, 1);
        }
        CHECK.due("5: forty", 40, x.intervals());
        CHECK.due("5: all removed", 0, Starts.fortyRemoved().intervals());
    }

    /** "Returns the set of intervals that are there", "bit i stands for the interval i" */
    private static void presentFromNoneToForty() {
        Roomcolour x = new Roomcolour();
        for (int i = 0; i < 40; i++) {
            CHECK.due("6: so far", (1L << i) - 1, x.present());
            x.add(0, 1000, 1);
        }
        CHECK.due("6: forty", ALL, x.present());
        long left = ALL;
        for (int i : new int[] {31, 32, 0, 39}) {
            x.remove(i);
            left &= ~(1L << i);
            CHECK.due("6: without " + i, left, x.present());
        }
        CHECK.due("6: all removed", 0, Starts.fortyRemoved().present());
    }

    // ---- promise 7: overlapping

    /** "Returns the set of the other intervals that overlap an interval" */
    private static void overlappingNoneAndAllOthers() {
        CHECK.due("7: the only one", 0, Starts.one(0, 1000, 1).overlapping(0));
        for (int i = 0; i < 40; i++) {
            CHECK.due("7: in a row", 0, Starts.fortyInARow().overlapping(i));
            CHECK.due("7: at once", ALL & ~(1L << i), Starts.fortyAtOnce().overlapping(i));
        }
        Roomcolour x = Starts.fortyAtOnce();
        x.remove(39);
        x.remove(0);
        CHECK.due("7: not the removed ones", ALL >> 1 & ~1L & ~(1L << 32), x.overlapping(32));
    }

    /** "if there is a time that both take; so one may begin when another one ends" */
    private static void overlappingOneTimeInCommon() {
        Roomcolour x = Starts.one(10, 20, 1);
        x.add(19, 30, 1);
        CHECK.due("7: the last time of the one", 0b10, x.overlapping(0));
        x.move(1, 20);
        CHECK.due("7: begins when the one ends", 0, x.overlapping(0));
        CHECK.due("7: the other way round", 0, x.overlapping(1));
        x.move(1, 0);
        CHECK.due("7: the first time of the one", 0b10, x.overlapping(0));
        CHECK.due("7: the first time, the other way round", 0b01, x.overlapping(1));
        x.add(0, 10, 1);
        CHECK.due("7: ends when the one begins", 0b10, x.overlapping(0));
        x.add(10, 11, 1);
        x.add(19, 20, 1);
        x.add(10, 20, 1);
        x.add(9, 21, 1);
        x.add(0, 1000, 1);
        CHECK.due("7: inside, the same and around", 0b11111010, x.overlapping(0));
        CHECK.due("7: a single time", 0b11100011, x.overlapping(3));
    }

    /** "IndexOutOfBoundsException if there is no such interval" */
    private static void overlappingNoSuchInterval() {
        NoSuchInterval.refusedBy(CHECK, "7", Roomcolour::overlapping);
    }
}
