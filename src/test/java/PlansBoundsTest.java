/** Promises 13 to 17 at their bounds, a test for each sentence that names one. */
public final class PlansBoundsTest {
    private static final Class<IllegalArgumentException> ARGUMENT = IllegalArgumentException.class;
    private static final Class<IndexOutOfBoundsException> INDEX = IndexOutOfBoundsException.class;
    private static final long ALL = (1L << 40) - 1;
    private static final int[] REFUSED_ROOMS = {
        0, -1, 7, 8, 40, 41, Integer.MIN_VALUE, Integer.MAX_VALUE,
    };
    private static final Check CHECK = new Check("PlansBoundsTest");

    public static void main(String[] args) {
        heaviestFromNoneToForty();
        heaviestOneBeginsWhenAnotherEnds();
        chosenFromNoneToForty();
        chosenSameEndByRisingNumbers();
        chosenBestIsBestBefore();
        chosenEndNotAboveItsBegin();
        mostFromNoneToForty();
        mostOneBeginsWhenAnotherEnds();
        heaviestInRooms();
        heaviestInRefused();
        heaviestInFromNoneToForty();
        heaviestInDepthNotAboveRooms();
        lossWithoutRooms();
        lossWithoutRefused();
        lossWithoutFromNothingToItsWeight();
        lossWithoutLeavesItThere();
        lossWithoutNoSuchInterval();
        lossWithoutIndexAheadOfArgument();
        CHECK.end();
    }

    // ---- promise 13: heaviest

    /** "Returns the weight of a heaviest plan for one room": nothing there, and everything full. */
    private static void heaviestFromNoneToForty() {
        CHECK.due("13: new", 0, Starts.empty().heaviest());
        CHECK.due("13: all removed", 0, Starts.fortyRemoved().heaviest());
        CHECK.due("13: the least", 1, Starts.one(0, 1000, 1).heaviest());
        CHECK.due("13: one", 1000, Starts.one(999, 1000, 1000).heaviest());
        CHECK.due("13: forty in a row", 40000, Starts.fortyInARow().heaviest());
        CHECK.due("13: forty at once", 1000, Starts.fortyAtOnce().heaviest());
        Roomcolour x = Starts.fortyInARow();
        x.remove(0);
        x.remove(39);
        CHECK.due("13: without the first and the last", 38000, x.heaviest());
    }

    /** "so one may begin when another one ends" */
    private static void heaviestOneBeginsWhenAnotherEnds() {
        Roomcolour x = Starts.one(10, 20, 3);
        x.add(20, 30, 4);
        CHECK.due("13: begins when the other ends", 7, x.heaviest());
        x.move(1, 19);
        CHECK.due("13: one time too early", 4, x.heaviest());
        x.move(1, 0);
        CHECK.due("13: ends when the other begins", 7, x.heaviest());
        x.move(1, 1);
        CHECK.due("13: one time too late", 4, x.heaviest());
    }

    // ---- promise 14: chosen

    /** "Beginning with j as the number of all intervals, as long as j is above 0" */
    private static void chosenFromNoneToForty() {
        CHECK.due("14: new", 0, Starts.empty().chosen());
        CHECK.due("14: all removed", 0, Starts.fortyRemoved().chosen());
        CHECK.due("14: one", 1, Starts.one(0, 1, 1).chosen());
        CHECK.due("14: the longest", 1, Starts.one(0, 1000, 1).chosen());
        CHECK.due("14: forty in a row", ALL, Starts.fortyInARow().chosen());
        Roomcolour x = Starts.fortyInARow();
        x.remove(0);
        x.remove(31);
        x.remove(32);
        x.remove(39);
        CHECK.due("14: thirty-six in a row", ALL & ~(1L | 3L << 31 | 1L << 39), x.chosen());
    }

    /** "those with the same end by rising numbers" */
    private static void chosenSameEndByRisingNumbers() {
        CHECK.due("14: forty at once, as heavy", 1, Starts.fortyAtOnce().chosen());
        Roomcolour x = Starts.fortyAtOnce();
        x.remove(0);
        CHECK.due("14: the lowest number that is there", 2, x.chosen());
        Roomcolour y = Starts.one(20, 30, 5);
        y.add(0, 30, 5);
        y.add(29, 30, 5);
        CHECK.due("14: not by begins", 1, y.chosen());
        y.add(28, 30, 6);
        y.add(27, 30, 6);
        CHECK.due("14: the first that is heavier", 0b1000, y.chosen());
    }

    /** "if best(j) is best(j - 1), j becomes 1 less; otherwise" */
    private static void chosenBestIsBestBefore() {
        Roomcolour x = Starts.one(0, 20, 7);
        x.add(0, 19, 7);
        CHECK.due("14: as heavy, but it ends earlier", 0b10, x.chosen());
        x.move(1, 1);
        CHECK.due("14: as heavy, with the same end", 0b01, x.chosen());
        x.move(1, 2);
        CHECK.due("14: as heavy, but it ends later", 0b01, x.chosen());
        x.add(2, 21, 8);
        CHECK.due("14: heavier by 1", 0b100, x.chosen());
        Roomcolour y = Starts.one(0, 10, 3);
        y.add(10, 20, 4);
        y.add(0, 20, 7);
        CHECK.due("14: two as heavy as one", 0b011, y.chosen());
        y.add(0, 20, 8);
        CHECK.due("14: one heavier than two", 0b1000, y.chosen());
    }

    /** "j becomes the number of intervals whose end is not above its begin" */
    private static void chosenEndNotAboveItsBegin() {
        Roomcolour x = Starts.one(0, 10, 3);
        x.add(10, 20, 4);
        CHECK.due("14: the end at its begin", 0b11, x.chosen());
        x.move(1, 9);
        CHECK.due("14: the end above its begin", 0b10, x.chosen());
        x.move(1, 11);
        CHECK.due("14: the end below its begin", 0b11, x.chosen());
        x.add(0, 11, 3);
        CHECK.due("14: as heavy, and ends at its begin too", 0b011, x.chosen());
        x.add(0, 11, 4);
        CHECK.due("14: heavier, and ends at its begin too", 0b1010, x.chosen());
        x.add(0, 12, 100);
        CHECK.due("14: the heaviest, alone", 0b10000, x.chosen());
        x.add(12, 13, 1);
        CHECK.due("14: what comes behind it", 0b110000, x.chosen());
    }

    // ---- promise 15: most

    /** "Returns the greatest number of intervals of a plan for one room" */
    private static void mostFromNoneToForty() {
        CHECK.due("15: new", 0, Starts.empty().most());
        CHECK.due("15: all removed", 0, Starts.fortyRemoved().most());
        CHECK.due("15: one", 1, Starts.one(999, 1000, 1).most());
        CHECK.due("15: one at 0", 1, Starts.one(0, 1, 1).most());
        CHECK.due("15: forty in a row", 40, Starts.fortyInARow().most());
        CHECK.due("15: forty at once", 1, Starts.fortyAtOnce().most());
        Roomcolour x = Starts.fortyInARow();
        x.remove(39);
        x.remove(0);
        CHECK.due("15: without the first and the last", 38, x.most());
        Roomcolour y = Starts.one(0, 1000, 1000);
        y.add(0, 1, 1);
        y.add(999, 1000, 1);
        CHECK.due("15: two light ones, not a heavy one", 2, y.most());
    }

    /** "so one may begin when another one ends" */
    private static void mostOneBeginsWhenAnotherEnds() {
        Roomcolour x = Starts.one(10, 20, 1);
        x.add(20, 30, 1);
        CHECK.due("15: begins when the other ends", 2, x.most());
        x.move(1, 19);
        CHECK.due("15: one time too early", 1, x.most());
        x.move(1, 0);
        CHECK.due("15: ends when the other begins", 2, x.most());
        x.move(1, 1);
        CHECK.due("15: one time too late", 1, x.most());
    }

    // ---- promise 16: heaviestIn

    /** "rooms: 1 to 6" */
    private static void heaviestInRooms() {
        for (int rooms = 1; rooms <= 6; rooms++) {
            CHECK.due("16: at once, rooms " + rooms, 1000 * rooms,
                    Starts.fortyAtOnce().heaviestIn(rooms));
            CHECK.due("16: in a row, rooms " + rooms, 40000,
                    Starts.fortyInARow().heaviestIn(rooms));
        }
    }

    /** "IllegalArgumentException if rooms is out of range" */
    private static void heaviestInRefused() {
        for (int rooms : REFUSED_ROOMS) {
            CHECK.refused("16: rooms " + rooms + ", nothing there", ARGUMENT, Starts::empty,
                    x -> x.heaviestIn(rooms));
            CHECK.refused("16: rooms " + rooms, ARGUMENT, Starts::busyDesk,
                    x -> x.heaviestIn(rooms));
            CHECK.refused("16: rooms " + rooms + ", everything full", ARGUMENT,
                    Starts::fortyAtOnce, x -> x.heaviestIn(rooms));
        }
    }

    /** "Returns the weight of a heaviest plan for some rooms": nothing there, up to forty. */
    private static void heaviestInFromNoneToForty() {
        for (int rooms = 1; rooms <= 6; rooms++) {
            CHECK.due("16: new, rooms " + rooms, 0, Starts.empty().heaviestIn(rooms));
            CHECK.due("16: all removed, rooms " + rooms, 0,
                    Starts.fortyRemoved().heaviestIn(rooms));
            CHECK.due("16: one, rooms " + rooms, 1000,
                    Starts.one(0, 1000, 1000).heaviestIn(rooms));
            Roomcolour x = new Roomcolour();
            for (int i = 1; i <= 40; i++) {
                x.add(0, 1000, 1);
                CHECK.due("16: " + i + " at once, rooms " + rooms, Math.min(i, rooms),
                        x.heaviestIn(rooms));
            }
        }
    }

    /** "a set of intervals for which no time has a depth above k" */
    private static void heaviestInDepthNotAboveRooms() {
        for (int rooms = 1; rooms <= 6; rooms++) {
            Roomcolour x = new Roomcolour();
            for (int i = 0; i < rooms; i++) {
                x.add(0, 500, 2);
            }
            x.add(500, 1000, 1);
            CHECK.due("16: as deep as rooms " + rooms, 2 * rooms + 1, x.heaviestIn(rooms));
            x.move(rooms, 499);
            CHECK.due("16: one time deeper than rooms " + rooms, 2 * rooms, x.heaviestIn(rooms));
            x.add(500, 1000, 3);
            CHECK.due("16: and one more behind, rooms " + rooms,
                    rooms == 1 ? 5 : 2 * rooms + 3, x.heaviestIn(rooms));
            x.remove(0);
            CHECK.due("16: and one less ahead, rooms " + rooms, rooms == 1 ? 3 : 2 * rooms + 2,
                    x.heaviestIn(rooms));
        }
    }

    // ---- promise 17: lossWithout

    /** "rooms: 1 to 6" */
    private static void lossWithoutRooms() {
        for (int rooms = 1; rooms <= 6; rooms++) {
            Roomcolour x = new Roomcolour();
            for (int i = 1; i <= 7; i++) {
                x.add(0, 1000, 10 * i);
            }
            int last = 7 - rooms;
            CHECK.due("17: the least of the plan, rooms " + rooms, 10,
                    x.lossWithout(last, rooms));
            CHECK.due("17: the greatest of all, rooms " + rooms, 10 * rooms,
                    x.lossWithout(6, rooms));
            CHECK.due("17: the next behind the plan, rooms " + rooms, 0,
                    x.lossWithout(last - 1, rooms));
        }
    }

    /** "IllegalArgumentException if rooms is out of range" */
    private static void lossWithoutRefused() {
        for (int rooms : REFUSED_ROOMS) {
            CHECK.refused("17: rooms " + rooms, ARGUMENT, Starts::busyDesk,
                    x -> x.lossWithout(1, rooms));
            CHECK.refused("17: rooms " + rooms + ", everything full", ARGUMENT,
                    Starts::fortyAtOnce, x -> x.lossWithout(39, rooms));
        }
    }

    /** "by how much the weight of a heaviest plan for some rooms would be less" */
    private static void lossWithoutFromNothingToItsWeight() {
        for (int rooms = 1; rooms <= 6; rooms++) {
            CHECK.due("17: the only one", 1000, Starts.one(0, 1, 1000).lossWithout(0, rooms));
            CHECK.due("17: the only one, the least", 1, Starts.one(0, 1, 1).lossWithout(0, rooms));
            CHECK.due("17: forty at once", 0, Starts.fortyAtOnce().lossWithout(39, rooms));
            CHECK.due("17: the first of a row", 1000, Starts.fortyInARow().lossWithout(0, rooms));
            CHECK.due("17: the last of a row", 1000, Starts.fortyInARow().lossWithout(39, rooms));
            Roomcolour x = Starts.one(0, 1000, 5);
            for (int i = 1; i < rooms; i++) {
                x.add(0, 1000, 9);
            }
            CHECK.due("17: as many as rooms " + rooms, 5, x.lossWithout(0, rooms));
            x.add(999, 1000, 4);
            CHECK.due("17: one more than rooms " + rooms, 1, x.lossWithout(0, rooms));
            CHECK.due("17: the one more, rooms " + rooms, 0, x.lossWithout(rooms, rooms));
            x.remove(rooms);
            CHECK.due("17: the one more removed, rooms " + rooms, 5, x.lossWithout(0, rooms));
        }
    }

    /** "would be less": the interval stays, and what the desk knows of it. */
    private static void lossWithoutLeavesItThere() {
        Roomcolour x = Starts.busyDesk();
        CHECK.due("17: an accepted one", 8, x.lossWithout(1, 6));
        String after = Answers.toTheEnd(x);
        CHECK.due("17: changes nothing", Answers.toTheEnd(Starts.busyDesk()), after);
    }

    /** "IndexOutOfBoundsException if there is no such interval" */
    private static void lossWithoutNoSuchInterval() {
        NoSuchInterval.refusedBy(CHECK, "17, rooms 1", (x, i) -> x.lossWithout(i, 1));
        NoSuchInterval.refusedBy(CHECK, "17, rooms 6", (x, i) -> x.lossWithout(i, 6));
    }

    /** "if several apply, the one that it lists first is thrown" */
    private static void lossWithoutIndexAheadOfArgument() {
        NoSuchInterval.refusedBy(CHECK, "17, rooms 0", (x, i) -> x.lossWithout(i, 0));
        NoSuchInterval.refusedBy(CHECK, "17, rooms 7", (x, i) -> x.lossWithout(i, 7));
        CHECK.refused("17: removed, the least rooms", INDEX, Starts::busyDesk,
                x -> x.lossWithout(3, Integer.MIN_VALUE));
    }
}
