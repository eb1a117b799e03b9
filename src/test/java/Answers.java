/** The answers of an object to its questions, as one text, to see whether a call changed any. */
final class Answers {
    private static final int[] PERIODS = {7, 20, 50, 1000};

    private Answers() {
    }

    static String of(Roomcolour x) {
        StringBuilder text = new StringBuilder();
        text.append(x.intervals()).append(' ').append(x.present()).append(' ');
        text.append(x.rooms()).append(' ').append(x.busiest()).append(' ');
        text.append(x.heaviest()).append(' ').append(x.chosen()).append(' ').append(x.most());
        text.append(" desk ").append(x.accepted()).append(' ').append(x.acceptedWeight());
        text.append(' ').append(x.droppedWeight()).append(' ').append(x.bestOfOffered());
        text.append(" each");
        for (int i = 0; i < 40; i++) {
            if ((x.present() >> i & 1) != 0) {
                text.append(' ').append(x.overlapping(i)).append('/').append(x.roomOf(i));
            }
        }
        text.append(" in");
        for (int rooms = 1; rooms <= 6; rooms++) {
            text.append(' ').append(x.heaviestIn(rooms));
        }
        text.append(" depths");
        for (int time = 0; time <= 1000; time++) {
            text.append(' ').append(x.depth(time));
        }
        text.append(" circles");
        for (int period : PERIODS) {
            text.append(' ').append(round(x, period));
        }
        return text.toString();
    }

    private static String round(Roomcolour x, int period) {
        try {
            return x.depthRound(period) + "/" + x.heaviestRound(period);
        } catch (IllegalStateException e) {
            return "too long";
        }
    }
}
