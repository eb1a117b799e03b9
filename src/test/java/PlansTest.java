/** Promises 13 to 17: plans for one and for several rooms. */
public final class PlansTest {
    private static final Check CHECK = new Check("PlansTest");

    public static void main(String[] args) {
        heaviest();
        chosen();
        chosenAmongEquals();
        most();
        heaviestIn();
        heaviestInGivesUpEarlierChoices();
        heaviestInGoesBackTwice();
        lossWithout();
        fortyAtOnce();
        fortyInARow();
        CHECK.end();
    }

    private static Roomcolour five() {
        Roomcolour x = new Roomcolour();
        x.add(0, 10, 5);
        x.add(10, 20, 5);
        x.add(5, 15, 11);
        x.add(0, 20, 10);
        x.add(15, 30, 3);
        return x;
    }

    private static void heaviest() {
        CHECK.due("13: without intervals", 0, new Roomcolour().heaviest());
        Roomcolour x = five();
        CHECK.due("13: two apart", 14, x.heaviest());
        x.remove(2);
        CHECK.due("13: after a removal", 10, x.heaviest());
        x.move(3, 30);
        CHECK.due("13: after a move", 20, x.heaviest());
        x.move(4, 20);
        CHECK.due("13: all but none overlap", 5 + 5 + 10, x.heaviest());
        x.move(3, 35);
        CHECK.due("13: all four", 23, x.heaviest());
    }

    private static void chosen() {
        CHECK.due("14: without intervals", 0, new Roomcolour().chosen());
        Roomcolour x = five();
        CHECK.due("14: two apart", 0b10100, x.chosen());
        x.remove(4);
        CHECK.due("14: one", 0b00100, x.chosen());
        x.remove(2);
        CHECK.due("14: best(j) is best(j - 1): the earlier ones", 0b00011, x.chosen());
        x.move(1, 0);
        CHECK.due("14: after a move", 0b01000, x.chosen());
        x.move(3, 10);
        CHECK.due("14: one begins when another one ends", 0b01001, x.chosen());
    }

    private static void chosenAmongEquals() {
        Roomcolour x = new Roomcolour();
        x.add(4, 9, 6);
        x.add(0, 9, 6);
        x.add(2, 9, 6);
        CHECK.due("14: same end and weight: the lowest number", 0b001, x.chosen());
        x.add(5, 9, 7);
        CHECK.due("14: same end: the heaviest", 0b1000, x.chosen());
        x.add(0, 4, 1);
        CHECK.due("14: same weight: not the later end", 0b11000, x.chosen());
        Roomcolour y = new Roomcolour();
        y.add(0, 8, 6);
        y.add(0, 7, 6);
        CHECK.due("14: same weight: the earlier end", 0b10, y.chosen());
        Roomcolour z = new Roomcolour();
        for (int i = 0; i < 40; i++) {
            z.add(999 - i, 1000 - i, 1);
        }
        CHECK.due("14: forty", (1L << 40) - 1, z.chosen());
    }

    private static void most() {
        CHECK.due("15: without intervals", 0, new Roomcolour().most());
        Roomcolour x = five();
        CHECK.due("15: two", 2, x.most());
        x.add(0, 5, 1);
        CHECK.due("15: three", 3, x.most());
        x.add(0, 1000, 1000);
        CHECK.due("15: not the heaviest", 3, x.most());
        CHECK.due("13: not the most", 1000, x.heaviest());
        x.remove(4);
        CHECK.due("15: two again", 2, x.most());
        x.remove(5);
        x.remove(1);
        x.remove(2);
        x.remove(3);
        CHECK.due("15: one", 1, x.most());
    }

    private static void heaviestIn() {
        Roomcolour empty = new Roomcolour();
        CHECK.due("16: without intervals", 0, empty.heaviestIn(1));
        CHECK.due("16: without intervals, six rooms", 0, empty.heaviestIn(6));
        Roomcolour x = five();
        CHECK.due("16: one room", 14, x.heaviestIn(1));
        CHECK.due("16: two rooms", 24, x.heaviestIn(2));
        CHECK.due("16: three rooms", 34, x.heaviestIn(3));
        CHECK.due("16: six rooms", 34, x.heaviestIn(6));
        x.remove(3);
        CHECK.due("16: after a removal", 24, x.heaviestIn(2));
        x.move(4, 12);
        CHECK.due("16: after a move", 21, x.heaviestIn(2));
    }

    /** The heaviest plan for one room is no part of the heaviest one for two. */
    private static void heaviestInGivesUpEarlierChoices() {
        Roomcolour x = new Roomcolour();
        x.add(0, 4, 10);
        x.add(6, 10, 10);
        x.add(2, 7, 9);
        x.add(0, 2, 3);
        x.add(3, 8, 9);
        x.add(7, 10, 3);
        CHECK.due("16: one room", 20, x.heaviestIn(1));
        CHECK.due("16: two rooms", 20 + 15, x.heaviestIn(2));
        Roomcolour y = new Roomcolour();
        y.add(0, 10, 5);
        y.add(10, 20, 5);
        y.add(0, 5, 3);
        y.add(5, 15, 4);
        y.add(15, 20, 3);
        y.add(5, 15, 4);
        CHECK.due("16: y in one room", 10, y.heaviestIn(1));
        CHECK.due("16: y in two rooms", 20, y.heaviestIn(2));
        CHECK.due("16: y in three rooms", 24, y.heaviestIn(3));
    }

    /** The third room has to go back along the earlier ones, wait, and go back once more. */
    private static void heaviestInGoesBackTwice() {
        Roomcolour x = new Roomcolour();
        x.add(1, 9, 42);
        x.add(0, 5, 42);
        x.add(1, 3, 1);
        x.add(3, 4, 41);
        x.add(0, 1, 2);
        x.add(4, 9, 2);
        x.add(0, 2, 3);
        x.add(5, 6, 1);
        x.add(2, 4, 40);
        CHECK.due("16: x in one room", 46, x.heaviestIn(1));
        CHECK.due("16: x in two rooms", 90, x.heaviestIn(2));
        CHECK.due("16: x in three rooms", 133, x.heaviestIn(3));
        CHECK.due("16: x in four rooms: all", 174, x.heaviestIn(4));
    }

    private static void lossWithout() {
        Roomcolour x = five();
        CHECK.due("17: in the plan", 4, x.lossWithout(2, 1));
        CHECK.due("17: not in the plan", 0, x.lossWithout(0, 1));
        CHECK.due("17: two rooms", 0, x.lossWithout(3, 2));
        CHECK.due("17: two rooms, another one", 4, x.lossWithout(2, 2));
        CHECK.due("17: three rooms", 3, x.lossWithout(4, 3));
        CHECK.due("17: six rooms: its weight", 11, x.lossWithout(2, 6));
        CHECK.due("17: it is still there", 0b11111, x.present());
        CHECK.due("17: its weight is still there", 34, x.heaviestIn(6));
        Roomcolour y = new Roomcolour();
        y.add(0, 1, 1000);
        CHECK.due("17: the only one", 1000, y.lossWithout(0, 1));
    }

    private static void fortyAtOnce() {
        Roomcolour x = new Roomcolour();
        for (int i = 0; i < 40; i++) {
            x.add(i, 100 + i, 900 + i);
        }
        CHECK.due("13: forty at once", 939, x.heaviest());
        CHECK.due("14: forty at once", 1L << 39, x.chosen());
        CHECK.due("15: forty at once", 1, x.most());
        CHECK.due("16: forty at once", 939 + 938 + 937 + 936 + 935 + 934, x.heaviestIn(6));
        CHECK.due("17: forty at once", 6, x.lossWithout(39, 6));
        CHECK.due("17: forty at once, a light one", 0, x.lossWithout(33, 6));
    }

    private static void fortyInARow() {
        Roomcolour x = new Roomcolour();
        for (int i = 0; i < 40; i++) {
            x.add(25 * i, 25 * i + 25, 1000);
        }
        CHECK.due("13: forty in a row", 40000, x.heaviest());
        CHECK.due("14: forty in a row", (1L << 40) - 1, x.chosen());
        CHECK.due("15: forty in a row", 40, x.most());
        CHECK.due("16: forty in a row", 40000, x.heaviestIn(1));
        CHECK.due("16: forty in a row, six rooms", 40000, x.heaviestIn(6));
        CHECK.due("17: forty in a row", 1000, x.lossWithout(0, 1));
    }
}
