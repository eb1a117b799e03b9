/** Objects to begin a test with. */
final class Starts {
    private Starts() {
    }

    static Roomcolour empty() {
        return new Roomcolour();
    }

    /** All forty, side by side from 0 to 1000, each as heavy as can be. */
    static Roomcolour fortyInARow() {
        Roomcolour x = new Roomcolour();
        for (int i = 0; i < 40; i++) {
            x.add(25 * i, 25 * i + 25, 1000);
        }
        return x;
    }

    /** All forty, each from 0 to 1000 and as heavy as can be. */
    static Roomcolour fortyAtOnce() {
        Roomcolour x = new Roomcolour();
        for (int i = 0; i < 40; i++) {
            x.add(0, 1000, 1000);
        }
        return x;
    }

    /** Forty were added, and all were removed. */
    static Roomcolour fortyRemoved() {
        Roomcolour x = fortyInARow();
        for (int i = 0; i < 40; i++) {
            x.remove(i);
        }
        return x;
    }

    /**
     * With the factor 150, and one interval of each kind: 0 dropped, 1 accepted, 2 rejected, 3
     * removed when it was accepted, 4 never offered, 5 moved when it was accepted, 6 accepted.
     */
    static Roomcolour busyDesk() {
        Roomcolour x = new Roomcolour();
        x.openDesk(150);
        x.add(10, 20, 5);
        x.add(15, 25, 8);
        x.add(20, 30, 11);
        x.add(40, 50, 4);
        x.add(60, 70, 6);
        x.add(100, 110, 7);
        x.add(300, 301, 1);
        x.offer(0);
        x.offer(1);
        x.offer(2);
        x.offer(3);
        x.offer(5);
        x.offer(6);
        x.remove(3);
        x.move(5, 200);
        return x;
    }

    /** Just one interval. */
    static Roomcolour one(int begin, int end, int weight) {
        Roomcolour x = new Roomcolour();
        x.add(begin, end, weight);
        return x;
    }
}
