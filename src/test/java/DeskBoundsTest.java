import java.util.function.Supplier;

/** Promises 18 to 23 at their bounds, a test for each sentence that names one. */
public final class DeskBoundsTest {
    private static final Class<IllegalArgumentException> ARGUMENT = IllegalArgumentException.class;
    private static final Class<IllegalStateException> STATE = IllegalStateException.class;
    private static final Class<IndexOutOfBoundsException> INDEX = IndexOutOfBoundsException.class;
    private static final long ALL = (1L << 40) - 1;
    private static final Check CHECK = new Check("DeskBoundsTest");

    public static void main(String[] args) {
        openDeskFactor();
        openDeskRefused();
        openDeskNothingIsAccepted();
        openDeskNothingWasOffered();
        openDeskNothingWasDropped();
        openDeskWeightAcceptedBefore();
        offerMoreThanTheFactor();
        offerMoreThanSeveralRivals();
        offerWithoutRivals();
        offerOverlappingRivals();
        offerAcceptedRivals();
        offerRemovedIsNoRival();
        offerNoSuchInterval();
        offerOnceSinceTheDeskWasOpened();
        offerIndexAheadOfState();
        offerRefusedIsNoOffer();
        acceptedFromNoneToForty();
        acceptedWeightFromNoneToForty();
        droppedWeightFromNoneToForty();
        droppedWeightOfAllRivals();
        bestOfOfferedFromNoneToForty();
        bestOfOfferedThatAreThere();
        CHECK.end();
    }

    /** The desk has a factor, and has accepted an interval of a weight. */
    private static Roomcolour rival(int factor, int weight) {
        Roomcolour x = Starts.one(0, 10, weight);
        x.openDesk(factor);
        x.offer(0);
        return x;
    }

    private static Roomcolour fortyOffered(Roomcolour x) {
        for (int i = 0; i < 40; i++) {
            x.offer(i);
        }
        return x;
    }

    /** Each has dropped the one ahead of it. */
    private static Roomcolour fortyDropping() {
        Roomcolour x = new Roomcolour();
        for (int i = 0; i < 40; i++) {
            x.add(0, 1000, 961 + i);
        }
        return fortyOffered(x);
    }

    // ---- promise 18: openDesk

    /** "factor: 100 to 400" */
    private static void openDeskFactor() {
        Roomcolour x = rival(100, 10);
        CHECK.due("18: factor 100, as heavy", -1, x.offer(x.add(0, 10, 10)));
        CHECK.due("18: factor 100, heavier", 10, x.offer(x.add(0, 10, 11)));
        Roomcolour y = rival(400, 10);
        CHECK.due("18: factor 400, four times as heavy", -1, y.offer(y.add(0, 10, 40)));
        CHECK.due("18: factor 400, heavier", 10, y.offer(y.add(0, 10, 41)));
        Roomcolour z = rival(101, 100);
        CHECK.due("18: factor 101, just the factor", -1, z.offer(z.add(0, 10, 101)));
        CHECK.due("18: factor 101, heavier", 100, z.offer(z.add(0, 10, 102)));
        Roomcolour v = rival(399, 100);
        CHECK.due("18: factor 399, just the factor", -1, v.offer(v.add(0, 10, 399)));
        CHECK.due("18: factor 399, heavier", 100, v.offer(v.add(0, 10, 400)));
    }

    /** "IllegalArgumentException if factor is out of range" */
    private static void openDeskRefused() {
        int[] refused = {99, 98, 1, 0, -1, -100, -400, 401, 402, 500, 1000, Integer.MIN_VALUE,
            Integer.MAX_VALUE};
        for (int factor : refused) {
            String what = "18: factor " + factor;
            CHECK.refused(what + ", new", ARGUMENT, Starts::empty, x -> x.openDesk(factor));
            CHECK.refused(what, ARGUMENT, Starts::busyDesk, x -> x.openDesk(factor));
            CHECK.refused(what + ", after 400", ARGUMENT, () -> rival(400, 100),
                    x -> x.openDesk(factor));
            CHECK.refused(what + ", everything full", ARGUMENT,
                    () -> fortyOffered(Starts.fortyInARow()), x -> x.openDesk(factor));
        }
    }

    /** "nothing is accepted" */
    private static void openDeskNothingIsAccepted() {
        Roomcolour x = fortyOffered(Starts.fortyInARow());
        x.openDesk(100);
        CHECK.due("18: none of forty", 0, x.accepted());
        CHECK.due("18: none of forty weighs", 0, x.acceptedWeight());
        CHECK.due("18: all are still there", ALL, x.present());
        Roomcolour y = rival(400, 1000);
        y.openDesk(400);
        CHECK.due("18: what was accepted is no rival", 0, y.offer(y.add(0, 10, 1)));
    }

    /** "nothing was offered" */
    private static void openDeskNothingWasOffered() {
        Roomcolour x = Starts.busyDesk();
        CHECK.due("18: offered ahead", 5 + 11 + 7 + 1, x.bestOfOffered());
        x.openDesk(100);
        CHECK.due("18: none of the offered ones", 0, x.bestOfOffered());
        CHECK.due("18: the dropped one anew", 0, x.offer(0));
        CHECK.due("18: the accepted one anew", 5, x.offer(1));
        CHECK.due("18: the rejected one anew", 8, x.offer(2));
        CHECK.due("18: the moved one anew", 0, x.offer(5));
        CHECK.throwing("18: not the removed one", INDEX, () -> x.offer(3));
        x.openDesk(400);
        x.openDesk(400);
        CHECK.due("18: opened twice", 0, x.offer(0));
    }

    /** "or dropped" */
    private static void openDeskNothingWasDropped() {
        Roomcolour x = fortyDropping();
        CHECK.due("18: dropped ahead", 39 * 980, x.droppedWeight());
        x.openDesk(100);
        CHECK.due("18: dropped nothing", 0, x.droppedWeight());
        x.offer(0);
        x.offer(39);
        CHECK.due("18: dropped since", 961, x.droppedWeight());
    }

    /** "Returns the weight of all that was accepted before" */
    private static void openDeskWeightAcceptedBefore() {
        CHECK.due("18: new", 0, Starts.empty().openDesk(100));
        CHECK.due("18: nothing offered", 0, Starts.fortyInARow().openDesk(400));
        CHECK.due("18: all removed", 0, Starts.fortyRemoved().openDesk(250));
        Roomcolour x = fortyOffered(Starts.fortyInARow());
        CHECK.due("18: all forty", 40000, x.openDesk(400));
        CHECK.due("18: none since", 0, x.openDesk(400));
        CHECK.due("18: the last of forty", 1000, fortyDropping().openDesk(100));
        CHECK.due("18: without removed, dropped and moved ones", 9,
                Starts.busyDesk().openDesk(100));
    }

    // ---- promise 19: offer

    /** "If 100 times its weight is more than the factor times the sum": not as much. */
    private static void offerMoreThanTheFactor() {
        int[][] cases = {
            {100, 1, 1}, {100, 999, 999}, {101, 100, 101}, {150, 2, 3}, {200, 500, 1000},
            {250, 400, 1000}, {333, 100, 333}, {400, 1, 4}, {400, 249, 996},
        };
        for (int[] c : cases) {
            Roomcolour x = rival(c[0], c[1]);
            String what = "19: factor " + c[0] + ", rival " + c[1] + ", weight ";
            CHECK.due(what + c[2], -1, x.offer(x.add(9, 20, c[2])));
            CHECK.due(what + c[2] + ": nothing is dropped", c[1], x.acceptedWeight());
            if (c[2] < 1000) {
                CHECK.due(what + (c[2] + 1), c[1], x.offer(x.add(9, 20, c[2] + 1)));
                CHECK.due(what + (c[2] + 1) + ": accepted", c[2] + 1, x.acceptedWeight());
            }
        }
        Roomcolour y = rival(400, 1000);
        CHECK.due("19: both as heavy as can be", -1, y.offer(y.add(0, 10, 1000)));
        Roomcolour z = rival(399, 3);
        CHECK.due("19: 1197 is more than 1100", -1, z.offer(z.add(0, 10, 11)));
        CHECK.due("19: 1200 is more than 1197", 3, z.offer(z.add(0, 10, 12)));
    }

    /** "the sum of the weights of its rivals": one, two, up to thirty-nine. */
    private static void offerMoreThanSeveralRivals() {
        for (int rivals = 1; rivals <= 38; rivals++) {
            Roomcolour x = new Roomcolour();
            for (int i = 0; i < rivals; i++) {
                x.offer(x.add(20 * i, 20 * i + 20, 2));
            }
            int equal = x.add(0, 20 * rivals, 2 * rivals);
            int above = x.add(0, 20 * rivals, 2 * rivals + 1);
            CHECK.due("19: as heavy as rivals: " + rivals, -1, x.offer(equal));
            CHECK.due("19: heavier than rivals: " + rivals, 2 * rivals, x.offer(above));
            CHECK.due("19: they are dropped: " + rivals, 1L << above, x.accepted());
        }
        Roomcolour y = new Roomcolour();
        for (int i = 0; i < 39; i++) {
            y.offer(y.add(20 * i, 20 * i + 20, 1000));
        }
        CHECK.due("19: thirty-nine as heavy as can be", -1, y.offer(y.add(0, 1000, 1000)));
        CHECK.due("19: they stay", ALL >> 1, y.accepted());
        Roomcolour z = new Roomcolour();
        for (int i = 0; i < 39; i++) {
            z.offer(z.add(20 * i, 20 * i + 20, 25));
        }
        CHECK.due("19: heavier than thirty-nine", 975, z.offer(z.add(0, 1000, 976)));
        CHECK.due("19: the last one alone", 1L << 39, z.accepted());
    }

    /** "if it has no rivals, it is accepted, too", "0 without rivals" */
    private static void offerWithoutRivals() {
        Roomcolour x = Starts.one(0, 1000, 1);
        x.openDesk(400);
        CHECK.due("19: the lightest, the greatest factor", 0, x.offer(0));
        CHECK.due("19: accepted", 1, x.accepted());
        Roomcolour y = Starts.fortyInARow();
        for (int i = 39; i >= 0; i--) {
            CHECK.due("19: forty in a row", 0, y.offer(i));
        }
        CHECK.due("19: all accepted", ALL, y.accepted());
    }

    /** "its rivals are the accepted intervals that overlap it": by one time, and not by none. */
    private static void offerOverlappingRivals() {
        Roomcolour x = Starts.one(10, 20, 5);
        x.offer(0);
        CHECK.due("19: begins when the other ends", 0, x.offer(x.add(20, 30, 1)));
        CHECK.due("19: ends when the other begins", 0, x.offer(x.add(5, 10, 1)));
        CHECK.due("19: the last time of the other", -1, x.offer(x.add(19, 20, 5)));
        CHECK.due("19: the first time of the other", -1, x.offer(x.add(10, 11, 5)));
        CHECK.due("20: these are accepted", 0b111, x.accepted());
        CHECK.due("19: overlaps two of three", 6, x.offer(x.add(19, 21, 7)));
        CHECK.due("20: the third stays", 0b100100, x.accepted());
    }

    /** "the accepted intervals": not the others that overlap it. */
    private static void offerAcceptedRivals() {
        Roomcolour x = Starts.one(0, 10, 9);
        x.add(0, 10, 5);
        x.add(5, 15, 10);
        x.add(2, 4, 1);
        CHECK.due("19: never offered is no rival", 0, x.offer(1));
        CHECK.due("19: one rival", 5, x.offer(2));
        CHECK.due("19: dropped is no rival", 0, x.offer(3));
        CHECK.due("19: rejected", -1, x.offer(0));
        CHECK.due("19: rejected is no rival", 0, x.offer(x.add(0, 2, 1)));
        x.move(2, 100);
        CHECK.due("19: moved is no rival", 0, x.offer(x.add(100, 110, 1)));
        CHECK.due("22: only one was dropped", 5, x.droppedWeight());
    }

    /** "An interval that is removed is not accepted any more, without being dropped" */
    private static void offerRemovedIsNoRival() {
        Roomcolour x = Starts.one(0, 10, 1000);
        x.offer(0);
        x.remove(0);
        CHECK.due("19: removed is no rival", 0, x.offer(x.add(0, 10, 1)));
        CHECK.due("20: only the new one", 0b10, x.accepted());
        CHECK.due("22: nothing was dropped", 0, x.droppedWeight());
    }

    /** "IndexOutOfBoundsException if there is no such interval" */
    private static void offerNoSuchInterval() {
        NoSuchInterval.refusedBy(CHECK, "19", Roomcolour::offer);
    }

    /** "IllegalStateException if it was offered since the desk was opened" */
    private static void offerOnceSinceTheDeskWasOpened() {
        for (int interval : new int[] {0, 1, 2, 5, 6}) {
            CHECK.refused("19: offered already: " + interval, STATE, Starts::busyDesk,
                    x -> x.offer(interval));
        }
        Supplier<Roomcolour> full = () -> fortyOffered(Starts.fortyInARow());
        for (int interval : new int[] {0, 31, 32, 39}) {
            CHECK.refused("19: offered already, of forty: " + interval, STATE, full,
                    x -> x.offer(interval));
            CHECK.refused("19: dropped of forty: " + interval, STATE,
                    DeskBoundsTest::fortyDropping, x -> x.offer(interval));
        }
        CHECK.refused("19: moved to its own begin", STATE, () -> {
            Roomcolour x = Starts.busyDesk();
            x.move(6, 300);
            return x;
        }, x -> x.offer(6));
        Roomcolour y = Starts.busyDesk();
        y.openDesk(150);
        CHECK.due("19: opened since", 0, y.offer(6));
        CHECK.throwing("19: offered since", STATE, () -> y.offer(6));
    }

    /** "if several apply, the one that it lists first is thrown" */
    private static void offerIndexAheadOfState() {
        CHECK.refused("19: offered and removed", INDEX, Starts::busyDesk, x -> x.offer(3));
        CHECK.refused("19: rejected and removed", INDEX, () -> {
            Roomcolour x = Starts.busyDesk();
            x.remove(2);
            return x;
        }, x -> x.offer(2));
        CHECK.refused("19: dropped and removed", INDEX, () -> {
            Roomcolour x = Starts.busyDesk();
            x.remove(0);
            return x;
        }, x -> x.offer(0));
    }

    /** "A call that throws changes nothing": a refused offer is none. */
    private static void offerRefusedIsNoOffer() {
        Roomcolour x = new Roomcolour();
        for (int i = 0; i < 40; i++) {
            int interval = i;
            CHECK.throwing("19: not added yet", INDEX, () -> x.offer(interval));
        }
        for (int i = 0; i < 40; i++) {
            x.add(i, i + 1, 1);
            CHECK.due("19: can be offered all the same", 0, x.offer(i));
        }
    }

    // ---- promises 20 to 22: accepted, acceptedWeight and droppedWeight

    /** "Returns the set of intervals that are accepted", "bit i stands for the interval i" */
    private static void acceptedFromNoneToForty() {
        CHECK.due("20: new", 0, Starts.empty().accepted());
        CHECK.due("20: none offered", 0, Starts.fortyInARow().accepted());
        Roomcolour x = Starts.fortyInARow();
        for (int i = 0; i < 40; i++) {
            x.offer(i);
            CHECK.due("20: in a row", (2L << i) - 1, x.accepted());
        }
        for (int i = 0; i < 40; i++) {
            CHECK.due("20: still", ALL >> i << i, x.accepted());
            x.remove(i);
        }
        CHECK.due("20: all removed", 0, x.accepted());
        CHECK.due("20: only the last", 1L << 39, fortyDropping().accepted());
        CHECK.due("20: only the first", 1, fortyOffered(Starts.fortyAtOnce()).accepted());
    }

    /** "Returns the weight of all intervals that are accepted" */
    private static void acceptedWeightFromNoneToForty() {
        CHECK.due("21: new", 0, Starts.empty().acceptedWeight());
        CHECK.due("21: none offered", 0, Starts.fortyInARow().acceptedWeight());
        Roomcolour x = Starts.fortyInARow();
        for (int i = 0; i < 40; i++) {
            x.offer(i);
            CHECK.due("21: in a row", 1000 * (i + 1), x.acceptedWeight());
        }
        for (int i = 0; i < 40; i++) {
            CHECK.due("21: still", 1000 * (40 - i), x.acceptedWeight());
            x.move(i, 25 * i);
        }
        CHECK.due("21: all moved", 0, x.acceptedWeight());
        CHECK.due("21: only the last", 1000, fortyDropping().acceptedWeight());
        CHECK.due("21: only the first", 1000, fortyOffered(Starts.fortyAtOnce()).acceptedWeight());
    }

    /** "Returns the weight of all rivals that have been dropped since the desk was opened" */
    private static void droppedWeightFromNoneToForty() {
        CHECK.due("22: new", 0, Starts.empty().droppedWeight());
        CHECK.due("22: in a row", 0, fortyOffered(Starts.fortyInARow()).droppedWeight());
        CHECK.due("22: all rejected", 0, fortyOffered(Starts.fortyAtOnce()).droppedWeight());
        Roomcolour x = fortyDropping();
        int all = 39 * 980;
        CHECK.due("22: thirty-nine, one after the other", all, x.droppedWeight());
        x.remove(39);
        CHECK.due("22: not the removed one", all, x.droppedWeight());
        x.remove(0);
        CHECK.due("22: the dropped one, though it is removed", all, x.droppedWeight());
    }

    /** "all rivals": those of one offer, and those of all offers. */
    private static void droppedWeightOfAllRivals() {
        Roomcolour x = Starts.one(0, 1, 3);
        x.add(1, 2, 4);
        x.add(0, 2, 8);
        x.add(5, 6, 1);
        x.add(5, 6, 2);
        x.offer(0);
        x.offer(1);
        CHECK.due("22: none yet", 0, x.droppedWeight());
        x.offer(2);
        CHECK.due("22: two at once", 7, x.droppedWeight());
        x.offer(3);
        CHECK.due("22: none more", 7, x.droppedWeight());
        x.offer(4);
        CHECK.due("22: one more", 8, x.droppedWeight());
    }

    // ---- promise 23: bestOfOffered

    /** "a heaviest plan for one room of the intervals that ... have been offered" */
    private static void bestOfOfferedFromNoneToForty() {
        CHECK.due("23: new", 0, Starts.empty().bestOfOffered());
        CHECK.due("23: none offered", 0, Starts.fortyInARow().bestOfOffered());
        Roomcolour x = Starts.fortyInARow();
        for (int i = 0; i < 40; i++) {
            x.offer(i);
            CHECK.due("23: in a row", 1000 * (i + 1), x.bestOfOffered());
        }
        CHECK.due("23: at once", 1000, fortyOffered(Starts.fortyAtOnce()).bestOfOffered());
        Roomcolour y = Starts.one(0, 10, 5);
        y.add(10, 20, 6);
        y.add(0, 20, 10);
        y.offer(2);
        y.offer(0);
        y.offer(1);
        CHECK.due("20: the light ones were rejected", 0b100, y.accepted());
        CHECK.due("23: but they count, and one begins when the other ends", 11, y.bestOfOffered());
        y.move(1, 9);
        CHECK.due("23: one time too early", 10, y.bestOfOffered());
        CHECK.due("23: a refused offer does not count", 10, refusedOffer(y).bestOfOffered());
    }

    private static Roomcolour refusedOffer(Roomcolour x) {
        CHECK.throwing("23: offered already", STATE, () -> x.offer(0));
        CHECK.throwing("23: never added", INDEX, () -> x.offer(3));
        x.add(500, 600, 9);
        return x;
    }

    /** "of the intervals that are there" */
    private static void bestOfOfferedThatAreThere() {
        Roomcolour x = fortyOffered(Starts.fortyInARow());
        for (int i = 0; i < 40; i++) {
            CHECK.due("23: left", 1000 * (40 - i), x.bestOfOffered());
            x.remove(i);
        }
        CHECK.due("23: none left", 0, x.bestOfOffered());
        Roomcolour y = fortyDropping();
        y.remove(39);
        CHECK.due("23: the heaviest that is left was dropped", 999, y.bestOfOffered());
        CHECK.due("20: none is accepted", 0, y.accepted());
    }
}
