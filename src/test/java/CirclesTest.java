/** Promises 24 and 25: intervals on a circle. */
public final class CirclesTest {
    private static final Check CHECK = new Check("CirclesTest");

    public static void main(String[] args) {
        depthRound();
        heaviestRound();
        fullTurn();
        greatestPeriod();
        forty();
        CHECK.end();
    }

    private static Roomcolour four() {
        Roomcolour x = new Roomcolour();
        x.add(0, 6, 4);
        x.add(4, 8, 3);
        x.add(10, 13, 6);
        x.add(8, 11, 5);
        return x;
    }

    private static void depthRound() {
        CHECK.due("24: without intervals", 0, new Roomcolour().depthRound(1));
        Roomcolour x = four();
        CHECK.due("24: 12", 2, x.depthRound(12));
        CHECK.due("24: 10", 3, x.depthRound(10));
        CHECK.due("24: 6", 4, x.depthRound(6));
        x.remove(0);
        CHECK.due("24: after a removal", 3, x.depthRound(6));
        x.move(2, 12);
        CHECK.due("24: after a move", 2, x.depthRound(6));
        Roomcolour y = new Roomcolour();
        y.add(0, 5, 1);
        y.add(5, 10, 1);
        CHECK.due("24: one begins when another one ends", 1, y.depthRound(10));
        CHECK.due("24: one on the other", 2, y.depthRound(5));
        y.move(1, 15);
        CHECK.due("24: a turn later", 1, y.depthRound(10));
        y.move(1, 14);
        CHECK.due("24: the last time of the other", 2, y.depthRound(10));
        y.move(1, 16);
        CHECK.due("24: the first time of the other", 2, y.depthRound(10));
    }

    private static void heaviestRound() {
        CHECK.due("25: without intervals", 0, new Roomcolour().heaviestRound(1));
        Roomcolour x = four();
        CHECK.due("25: 12", 9, x.heaviestRound(12));
        CHECK.due("25: 10", 9, x.heaviestRound(10));
        CHECK.due("25: 7", 8, x.heaviestRound(7));
        CHECK.due("25: 6", 6, x.heaviestRound(6));
        CHECK.due("25: 1000", 10, x.heaviestRound(1000));
        x.remove(2);
        CHECK.due("25: after a removal", 9, x.heaviestRound(12));
        x.move(0, 12);
        CHECK.due("25: a turn later", 9, x.heaviestRound(12));
        x.move(0, 15);
        CHECK.due("25: after a move", 8, x.heaviestRound(12));
        Roomcolour y = new Roomcolour();
        y.add(8, 12, 5);
        y.add(2, 5, 4);
        y.add(25, 28, 3);
        CHECK.due("25: round the turn", 12, y.heaviestRound(10));
        y.move(1, 1);
        CHECK.due("25: one too early", 8, y.heaviestRound(10));
        y.move(1, 3);
        CHECK.due("25: one too late", 9, y.heaviestRound(10));
        CHECK.due("25: the heaviest of all alone", 5, y.heaviestRound(4));
    }

    private static void fullTurn() {
        Roomcolour x = new Roomcolour();
        x.add(3, 10, 4);
        x.add(20, 21, 9);
        CHECK.due("24: a full turn overlaps all", 2, x.depthRound(7));
        CHECK.due("25: a full turn is alone", 9, x.heaviestRound(7));
        CHECK.due("24: one less than a turn", 2, x.depthRound(8));
        x.move(1, 26);
        CHECK.due("24: in the time that is left", 1, x.depthRound(8));
        CHECK.due("25: in the time that is left", 13, x.heaviestRound(8));
        Roomcolour y = new Roomcolour();
        y.add(7, 8, 2);
        y.add(9, 10, 3);
        CHECK.due("24: period 1", 2, y.depthRound(1));
        CHECK.due("25: period 1", 3, y.heaviestRound(1));
    }

    private static void greatestPeriod() {
        Roomcolour x = new Roomcolour();
        x.add(0, 1000, 7);
        CHECK.due("24: length 1000", 1, x.depthRound(1000));
        CHECK.due("25: length 1000", 7, x.heaviestRound(1000));
        x.add(0, 1, 1);
        x.add(999, 1000, 2);
        CHECK.due("24: first and last time", 2, x.depthRound(1000));
        CHECK.due("25: first and last time", 7, x.heaviestRound(1000));
        x.remove(0);
        CHECK.due("25: first and last time are apart", 3, x.heaviestRound(1000));
        CHECK.due("25: and the same time modulo 999", 2, x.heaviestRound(999));
        CHECK.due("24: and the same time modulo 999", 2, x.depthRound(999));
    }

    private static void forty() {
        Roomcolour x = new Roomcolour();
        for (int i = 0; i < 40; i++) {
            x.add(25 * i, 25 * i + 25, 1000);
        }
        CHECK.due("24: forty in a row", 1, x.depthRound(1000));
        CHECK.due("25: forty in a row", 40000, x.heaviestRound(1000));
        CHECK.due("24: forty on one", 40, x.depthRound(25));
        CHECK.due("25: forty on one", 1000, x.heaviestRound(25));
        CHECK.due("24: four turns", 4, x.depthRound(250));
        CHECK.due("25: four turns", 10000, x.heaviestRound(250));
    }
}
