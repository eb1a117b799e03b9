/** Promises 8 to 12: rooms and depths. */
public final class RoomsTest {
    private static final Check CHECK = new Check("RoomsTest");

    public static void main(String[] args) {
        rooms();
        roomOf();
        roomOfEqualBegins();
        roomOfForty();
        depth();
        busiest();
        earliest();
        earliestAmongMany();
        CHECK.end();
    }

    private static void rooms() {
        Roomcolour x = new Roomcolour();
        CHECK.due("8: without intervals", 0, x.rooms());
        x.add(0, 10, 1);
        CHECK.due("8: one", 1, x.rooms());
        x.add(10, 20, 1);
        CHECK.due("8: one begins when another one ends", 1, x.rooms());
        x.add(9, 11, 1);
        CHECK.due("8: two", 2, x.rooms());
        x.add(9, 10, 1);
        CHECK.due("8: three", 3, x.rooms());
        x.remove(2);
        CHECK.due("8: two again", 2, x.rooms());
        x.remove(0);
        x.remove(1);
        x.remove(3);
        CHECK.due("8: all removed", 0, x.rooms());
    }

    private static void roomOf() {
        Roomcolour x = new Roomcolour();
        x.add(0, 10, 5);
        x.add(10, 20, 5);
        x.add(5, 15, 11);
        x.add(0, 20, 10);
        x.add(15, 30, 3);
        CHECK.due("9: first", 0, x.roomOf(0));
        CHECK.due("9: room free again at its begin", 0, x.roomOf(1));
        CHECK.due("9: third room", 2, x.roomOf(2));
        CHECK.due("9: second room", 1, x.roomOf(3));
        CHECK.due("9: lowest that is free", 2, x.roomOf(4));
        x.remove(0);
        CHECK.due("9: given anew after a removal", 0, x.roomOf(3));
        CHECK.due("9: second after a removal", 1, x.roomOf(2));
        CHECK.due("9: third after a removal", 2, x.roomOf(1));
        x.move(3, 100);
        CHECK.due("9: given anew after a move", 0, x.roomOf(2));
        CHECK.due("9: at another time", 0, x.roomOf(3));
    }

    private static void roomOfEqualBegins() {
        Roomcolour x = new Roomcolour();
        x.add(5, 6, 1);
        x.add(3, 30, 1);
        x.add(3, 4, 1);
        x.add(3, 5, 1);
        CHECK.due("9: same begin, lower number", 0, x.roomOf(1));
        CHECK.due("9: same begin, next number", 1, x.roomOf(2));
        CHECK.due("9: same begin, last number", 2, x.roomOf(3));
        CHECK.due("9: two are free, the lower one", 1, x.roomOf(0));
    }

    private static void roomOfForty() {
        Roomcolour x = new Roomcolour();
        for (int i = 0; i < 40; i++) {
            x.add(39 - i, 1000, 1);
        }
        CHECK.due("9: forty rooms, first", 0, x.roomOf(39));
        CHECK.due("9: forty rooms, last", 39, x.roomOf(0));
        CHECK.due("8: forty", 40, x.rooms());
        CHECK.due("11: forty", 39, x.busiest());
    }

    private static void depth() {
        Roomcolour x = new Roomcolour();
        CHECK.due("10: without intervals", 0, x.depth(0));
        x.add(0, 1000, 1);
        x.add(10, 20, 1);
        x.add(20, 30, 1);
        CHECK.due("10: at 0", 1, x.depth(0));
        CHECK.due("10: ahead of a begin", 1, x.depth(9));
        CHECK.due("10: at a begin", 2, x.depth(10));
        CHECK.due("10: at an end and a begin", 2, x.depth(20));
        CHECK.due("10: at an end", 1, x.depth(30));
        CHECK.due("10: at 999", 1, x.depth(999));
        CHECK.due("10: at 1000", 0, x.depth(1000));
        x.remove(0);
        CHECK.due("10: after a removal", 0, x.depth(5));
    }

    private static void busiest() {
        Roomcolour x = new Roomcolour();
        CHECK.due("11: without intervals", -1, x.busiest());
        x.add(50, 60, 1);
        CHECK.due("11: one", 50, x.busiest());
        x.add(30, 40, 1);
        CHECK.due("11: least of two", 30, x.busiest());
        x.add(55, 58, 1);
        CHECK.due("11: deeper, though later", 55, x.busiest());
        x.add(36, 44, 1);
        CHECK.due("11: as deep, and earlier", 36, x.busiest());
        x.remove(1);
        CHECK.due("11: after a removal", 55, x.busiest());
        x.remove(0);
        x.remove(2);
        x.remove(3);
        CHECK.due("11: all removed", -1, x.busiest());
        x.add(0, 1000, 1);
        CHECK.due("11: at 0", 0, x.busiest());
    }

    private static void earliest() {
        Roomcolour x = new Roomcolour();
        CHECK.due("12: without intervals", 0, x.earliest(1000, 1));
        x.add(10, 20, 1);
        CHECK.due("12: fits ahead", 0, x.earliest(10, 1));
        CHECK.due("12: too long ahead", 20, x.earliest(11, 1));
        CHECK.due("12: just fits behind", 20, x.earliest(980, 1));
        CHECK.due("12: does not fit", -1, x.earliest(981, 1));
        CHECK.due("12: two rooms", 0, x.earliest(1000, 2));
        x.add(24, 30, 1);
        CHECK.due("12: fits between", 0, x.earliest(4, 1));
        x.add(0, 7, 1);
        CHECK.due("12: fits in the first gap", 7, x.earliest(3, 1));
        CHECK.due("12: fits in the second gap", 20, x.earliest(4, 1));
        CHECK.due("12: fits behind all", 30, x.earliest(5, 1));
        x.remove(1);
        CHECK.due("12: after a removal", 20, x.earliest(5, 1));
        x.add(999, 1000, 1);
        CHECK.due("12: ends at the last begin", 20, x.earliest(979, 1));
        CHECK.due("12: the last time is taken", -1, x.earliest(980, 1));
        x.move(3, 990);
        CHECK.due("12: up to a later begin", 20, x.earliest(970, 1));
        CHECK.due("12: past a later begin", -1, x.earliest(971, 1));
    }

    private static void earliestAmongMany() {
        Roomcolour x = new Roomcolour();
        for (int i = 0; i < 20; i++) {
            x.add(0, 100 + i, 1);
            x.add(50, 500, 1);
        }
        CHECK.due("12: rooms above the first depth", 0, x.earliest(50, 21));
        CHECK.due("12: waits for one to end", 100, x.earliest(51, 40));
        CHECK.due("12: waits for ten to end", 109, x.earliest(51, 31));
        CHECK.due("12: waits for all to end", 500, x.earliest(1, 20));
        CHECK.due("12: with the last times", 500, x.earliest(500, 20));
        CHECK.due("12: beyond the last time", 119, x.earliest(501, 21));
        CHECK.due("12: none", -1, x.earliest(501, 20));
        Roomcolour y = new Roomcolour();
        y.add(0, 999, 1);
        CHECK.due("12: the last time alone", 999, y.earliest(1, 1));
        CHECK.due("12: not two", -1, y.earliest(2, 1));
        y.move(0, 1);
        CHECK.due("12: the first time alone", 0, y.earliest(1, 1));
        Roomcolour z = new Roomcolour();
        z.add(0, 1000, 1);
        CHECK.due("12: all is taken", -1, z.earliest(1, 1));
    }
}
