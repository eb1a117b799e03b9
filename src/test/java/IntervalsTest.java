/** Promises 1 to 7: a new object, and adding, removing and moving intervals. */
public final class IntervalsTest {
    private static final Check CHECK = new Check("IntervalsTest");

    public static void main(String[] args) {
        newObject();
        add();
        addForty();
        remove();
        move();
        moveAtTheDesk();
        intervalsAndPresent();
        overlapping();
        objectsAreApart();
        CHECK.end();
    }

    private static void newObject() {
        Roomcolour x = new Roomcolour();
        CHECK.due("1: NONE", -1, Roomcolour.NONE);
        CHECK.due("1: intervals", 0, x.intervals());
        CHECK.due("1: present", 0, x.present());
        CHECK.due("1: accepted", 0, x.accepted());
        CHECK.due("1: acceptedWeight", 0, x.acceptedWeight());
        CHECK.due("1: droppedWeight", 0, x.droppedWeight());
        CHECK.due("1: bestOfOffered", 0, x.bestOfOffered());
        x.add(0, 10, 100);
        x.add(5, 15, 101);
        CHECK.due("1: the desk is open", 0, x.offer(0));
        CHECK.due("1: the factor is 100", 100, x.offer(1));
        Roomcolour y = new Roomcolour();
        y.add(0, 10, 100);
        y.add(5, 15, 100);
        y.offer(0);
        CHECK.due("1: the factor is not below 100", -1, y.offer(1));
    }

    private static void add() {
        Roomcolour x = new Roomcolour();
        CHECK.due("2: least", 0, x.add(0, 1, 1));
        CHECK.due("2: greatest", 1, x.add(999, 1000, 1000));
        CHECK.due("2: longest", 2, x.add(0, 1000, 1000));
        CHECK.due("2: same again", 3, x.add(0, 1000, 1000));
        CHECK.due("2: end is not taken", 2, x.depth(1));
        CHECK.due("2: begin is taken", 3, x.depth(999));
        x.remove(3);
        CHECK.due("2: a number is given once", 4, x.add(3, 5, 7));
        CHECK.due("2: weight", 1 + 7 + 1000, x.heaviest());
    }

    private static void addForty() {
        Roomcolour x = new Roomcolour();
        for (int i = 0; i < 40; i++) {
            CHECK.due("2: number", i, x.add(i, i + 1, 1000));
        }
        CHECK.due("2: forty", 40, x.intervals());
        CHECK.due("2: forty bits", (1L << 40) - 1, x.present());
        CHECK.due("3: the last of forty", 39, x.remove(39));
    }

    private static void remove() {
        Roomcolour x = new Roomcolour();
        x.add(0, 10, 5);
        x.add(2, 12, 6);
        x.add(4, 14, 7);
        x.offer(1);
        x.offer(2);
        CHECK.due("3: accepted ahead", 4, x.accepted());
        CHECK.due("3: dropped ahead", 6, x.droppedWeight());
        CHECK.due("3: left", 2, x.remove(2));
        CHECK.due("3: present", 3, x.present());
        CHECK.due("3: not accepted any more", 0, x.accepted());
        CHECK.due("3: not dropped", 6, x.droppedWeight());
        CHECK.due("3: not of the offered", 6, x.bestOfOffered());
        CHECK.due("3: left of two", 1, x.remove(0));
        CHECK.due("3: left of one", 0, x.remove(1));
        CHECK.due("3: none is there", 0, x.present());
    }

    private static void move() {
        Roomcolour x = new Roomcolour();
        x.add(100, 110, 5);
        x.add(0, 1000, 6);
        x.add(7, 8, 1);
        CHECK.due("4: previous", 100, x.move(0, 990));
        CHECK.due("4: the end moved too", 2, x.depth(999));
        CHECK.due("4: not where it was", 1, x.depth(105));
        CHECK.due("4: previous again", 990, x.move(0, 0));
        CHECK.due("4: keeps its length", 2, x.depth(9));
        CHECK.due("4: not longer", 1, x.depth(10));
        CHECK.due("4: to where it is", 0, x.move(1, 0));
        CHECK.due("4: still whole", 1, x.depth(999));
        CHECK.due("4: to the end", 7, x.move(2, 999));
        CHECK.due("4: at the end", 2, x.depth(999));
        CHECK.due("4: keeps its weight", 6, x.heaviest());
    }

    private static void moveAtTheDesk() {
        Roomcolour x = new Roomcolour();
        x.add(0, 10, 5);
        x.add(5, 15, 9);
        x.add(20, 30, 4);
        x.add(40, 50, 4);
        x.offer(0);
        x.offer(1);
        x.offer(2);
        CHECK.due("4: accepted ahead", 6, x.accepted());
        x.move(2, 20);
        CHECK.due("4: to its own begin, still not accepted any more", 2, x.accepted());
        CHECK.due("4: without being dropped", 5, x.droppedWeight());
        x.move(0, 100);
        x.move(3, 60);
        CHECK.due("4: not accepted: nothing changes", 2, x.accepted());
        CHECK.due("4: the offered ones where they are now", 18, x.bestOfOffered());
        CHECK.throwing("4: moved, but offered", IllegalStateException.class, () -> x.offer(2));
        x.move(3, 8);
        CHECK.due("4: offered where it is now", -1, x.offer(3));
    }

    private static void intervalsAndPresent() {
        Roomcolour x = new Roomcolour();
        x.add(0, 1, 1);
        CHECK.due("5: one", 1, x.intervals());
        CHECK.due("6: one", 1, x.present());
        x.add(0, 1, 1);
        x.add(0, 1, 1);
        x.remove(1);
        CHECK.due("5: two of three", 2, x.intervals());
        CHECK.due("6: two of three", 5, x.present());
        x.move(0, 50);
        CHECK.due("5: after a move", 2, x.intervals());
        CHECK.due("6: after a move", 5, x.present());
    }

    private static void overlapping() {
        Roomcolour x = new Roomcolour();
        x.add(10, 20, 1);
        x.add(0, 10, 1);
        x.add(20, 30, 1);
        x.add(19, 20, 1);
        x.add(10, 11, 1);
        x.add(0, 1000, 1);
        x.add(12, 14, 1);
        x.add(10, 20, 1);
        CHECK.due("7: of all kinds", 0b11111000, x.overlapping(0));
        CHECK.due("7: ends where 0 begins", 0b100000, x.overlapping(1));
        CHECK.due("7: begins where 0 ends", 0b100000, x.overlapping(2));
        CHECK.due("7: the whole time", 0b11011111, x.overlapping(5));
        x.remove(7);
        x.remove(5);
        CHECK.due("7: without removed ones", 0b01011000, x.overlapping(0));
        CHECK.due("7: none", 0, x.overlapping(2));
        Roomcolour y = new Roomcolour();
        for (int i = 0; i < 40; i++) {
            y.add(0, 5, 1);
        }
        CHECK.due("7: forty", ((1L << 40) - 1) & ~(1L << 35), y.overlapping(35));
    }

    private static void objectsAreApart() {
        Roomcolour x = new Roomcolour();
        Roomcolour y = new Roomcolour();
        x.add(0, 5, 3);
        x.offer(0);
        CHECK.due("1: the other has no intervals", 0, y.present());
        y.add(2, 3, 9);
        CHECK.due("1: the other has its own", 3, x.heaviest());
        CHECK.due("1: the other's desk", 0, y.accepted());
    }
}
