/** Promises 18 to 23: the desk. */
public final class DeskTest {
    private static final Check CHECK = new Check("DeskTest");

    public static void main(String[] args) {
        openDesk();
        offer();
        offerAtTheFactor();
        offerWithTheGreatestWeights();
        acceptedAndWeights();
        bestOfOffered();
        CHECK.end();
    }

    private static void openDesk() {
        Roomcolour x = new Roomcolour();
        CHECK.due("18: nothing was accepted", 0, x.openDesk(100));
        x.add(0, 10, 5);
        x.add(20, 30, 7);
        x.add(5, 15, 6);
        x.add(25, 35, 3);
        x.offer(0);
        x.offer(1);
        x.offer(2);
        x.offer(3);
        CHECK.due("18: the weight of the accepted ones", 13, x.openDesk(400));
        CHECK.due("18: nothing is accepted", 0, x.accepted());
        CHECK.due("18: nothing weighs", 0, x.acceptedWeight());
        CHECK.due("18: nothing was dropped", 0, x.droppedWeight());
        CHECK.due("18: nothing was offered", 0, x.bestOfOffered());
        CHECK.due("18: an offer anew", 0, x.offer(0));
        CHECK.due("18: with the new factor", -1, x.offer(2));
        CHECK.due("18: accepted since", 5, x.openDesk(119));
        CHECK.due("18: accepted again", 0, x.offer(0));
        CHECK.due("18: with the newest factor", 5, x.offer(2));
        CHECK.due("18: intervals stay", 4, x.intervals());
    }

    private static void offer() {
        Roomcolour x = new Roomcolour();
        x.add(0, 10, 5);
        x.add(10, 20, 5);
        x.add(5, 15, 11);
        x.add(0, 20, 10);
        x.add(15, 30, 3);
        CHECK.due("19: no rivals", 0, x.offer(0));
        CHECK.due("19: begins when another one ends", 0, x.offer(1));
        CHECK.due("19: two rivals", 10, x.offer(2));
        CHECK.due("19: rejected", -1, x.offer(3));
        CHECK.due("19: the dropped one is no rival", 0, x.offer(4));
        CHECK.due("20: after all", 0b10100, x.accepted());
        CHECK.due("22: after all", 10, x.droppedWeight());
    }

    private static void offerAtTheFactor() {
        Roomcolour x = new Roomcolour();
        x.add(0, 10, 100);
        x.add(0, 10, 150);
        x.add(0, 10, 151);
        x.add(0, 10, 226);
        x.add(0, 10, 227);
        x.openDesk(150);
        x.offer(0);
        CHECK.due("19: just the factor: rejected", -1, x.offer(1));
        CHECK.due("19: above the factor", 100, x.offer(2));
        CHECK.due("19: just below the factor", -1, x.offer(3));
        CHECK.due("19: above the factor again", 151, x.offer(4));
        CHECK.due("22: both", 251, x.droppedWeight());
        x.openDesk(100);
        x.offer(1);
        x.add(5, 15, 150);
        CHECK.due("19: as heavy: rejected", -1, x.offer(5));
    }

    private static void offerWithTheGreatestWeights() {
        Roomcolour x = new Roomcolour();
        for (int i = 0; i < 39; i++) {
            x.add(i, i + 1, 1000);
        }
        x.add(0, 1000, 1000);
        x.openDesk(400);
        for (int i = 0; i < 39; i++) {
            CHECK.due("19: side by side", 0, x.offer(i));
        }
        CHECK.due("19: against 39 rivals", -1, x.offer(39));
        CHECK.due("21: 39 rivals", 39000, x.acceptedWeight());
        CHECK.due("20: 39 rivals", (1L << 39) - 1, x.accepted());
        Roomcolour y = new Roomcolour();
        for (int i = 0; i < 39; i++) {
            y.add(i, i + 1, 2);
        }
        y.add(0, 1000, 313);
        y.openDesk(400);
        for (int i = 0; i < 39; i++) {
            y.offer(i);
        }
        CHECK.due("19: drops 39 rivals", 78, y.offer(39));
        CHECK.due("20: the last one alone", 1L << 39, y.accepted());
        CHECK.due("22: 39 rivals", 78, y.droppedWeight());
    }

    private static void acceptedAndWeights() {
        Roomcolour x = new Roomcolour();
        x.add(0, 10, 5);
        x.add(20, 30, 7);
        x.add(5, 25, 13);
        x.add(40, 50, 2);
        x.offer(0);
        CHECK.due("20: one", 0b0001, x.accepted());
        CHECK.due("21: one", 5, x.acceptedWeight());
        CHECK.due("22: none", 0, x.droppedWeight());
        x.offer(1);
        CHECK.due("20: two", 0b0011, x.accepted());
        CHECK.due("21: two", 12, x.acceptedWeight());
        x.offer(2);
        CHECK.due("20: both dropped", 0b0100, x.accepted());
        CHECK.due("21: both dropped", 13, x.acceptedWeight());
        CHECK.due("22: both", 12, x.droppedWeight());
        x.remove(0);
        CHECK.due("22: also when one is removed", 12, x.droppedWeight());
        x.offer(3);
        CHECK.due("20: one more", 0b1100, x.accepted());
        CHECK.due("21: one more", 15, x.acceptedWeight());
        x.move(2, 100);
        CHECK.due("20: moved", 0b1000, x.accepted());
        CHECK.due("21: moved", 2, x.acceptedWeight());
        CHECK.due("22: moved", 12, x.droppedWeight());
        x.remove(3);
        CHECK.due("20: removed", 0, x.accepted());
        CHECK.due("21: removed", 0, x.acceptedWeight());
        CHECK.due("22: removed", 12, x.droppedWeight());
        CHECK.due("18: nothing was accepted any more", 0, x.openDesk(200));
        CHECK.due("22: opened anew", 0, x.droppedWeight());
    }

    private static void bestOfOffered() {
        Roomcolour x = new Roomcolour();
        x.add(0, 10, 5);
        x.add(8, 22, 9);
        x.add(20, 30, 6);
        x.add(0, 1000, 500);
        CHECK.due("23: nothing was offered", 0, x.bestOfOffered());
        x.offer(0);
        CHECK.due("23: one", 5, x.bestOfOffered());
        x.offer(1);
        CHECK.due("23: the dropped one counts, but weighs less", 9, x.bestOfOffered());
        x.offer(2);
        CHECK.due("23: the dropped one and the rejected one", 11, x.bestOfOffered());
        CHECK.due("20: the desk has less", 0b0010, x.accepted());
        x.move(1, 100);
        CHECK.due("23: the moved one counts where it is", 20, x.bestOfOffered());
        x.remove(0);
        CHECK.due("23: a removed one does not count", 15, x.bestOfOffered());
        CHECK.due("13: all of them", 500, x.heaviest());
        x.openDesk(100);
        CHECK.due("23: opened anew", 0, x.bestOfOffered());
        x.offer(2);
        CHECK.due("23: offered anew", 6, x.bestOfOffered());
    }
}
