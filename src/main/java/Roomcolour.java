/**
 * Interval scheduling: the fewest rooms for a set of intervals, the heaviest plans for one and for
 * several rooms, a desk that accepts intervals online and may replace them, and intervals on a
 * circle.
 */
public final class Roomcolour {
    public static final int NONE = -1;

    private static final int MOST_INTERVALS = 40;
    private static final int LAST_TIME = 1000;
    private static final int MOST_WEIGHT = 1000;
    private static final int MOST_PLANNED_ROOMS = 6;
    private static final int LONGEST_PERIOD = 1000;
    private static final int LEAST_FACTOR = 100;
    private static final int MOST_FACTOR = 400;

    private final int[] begins;
    private final int[] ends;
    private final int[] weights;
    private int added;
    private long presentSet;

    private int factor;
    private long offeredSet;
    private long acceptedSet;
    private int dropped;

    // The questions fill these anew each time; they are kept so that a call makes no object.
    private final GivenRooms givenRooms;
    private final OneRoomPlan oneRoom;
    private final ManyRoomsPlan manyRooms;

    public Roomcolour() {
        begins = new int[MOST_INTERVALS];
        ends = new int[MOST_INTERVALS];
        weights = new int[MOST_INTERVALS];
        factor = LEAST_FACTOR;
        givenRooms = new GivenRooms();
        oneRoom = new OneRoomPlan();
        manyRooms = new ManyRoomsPlan();
    }

    // ---- intervals

    public int add(int begin, int end, int weight)
            throws IllegalArgumentException, IllegalStateException {
        if (begin < 0 || begin >= LAST_TIME || end <= begin || end > LAST_TIME) {
            throw new IllegalArgumentException("begin or end is out of range");
        }
        if (weight < 1 || weight > MOST_WEIGHT) {
            throw new IllegalArgumentException("weight is out of range");
        }
        if (added >= MOST_INTERVALS) {
            throw new IllegalStateException("40 intervals have been added");
        }
        int number = added;
        begins[number] = begin;
        ends[number] = end;
        weights[number] = weight;
        presentSet |= only(number);
        added++;
        return number;
    }

    public int remove(int interval) throws IndexOutOfBoundsException {
        requireThere(interval);
        presentSet &= ~only(interval);
        acceptedSet &= ~only(interval);
        return Long.bitCount(presentSet);
    }

    public int move(int interval, int begin)
            throws IndexOutOfBoundsException, IllegalArgumentException {
        requireThere(interval);
        int length = lengthOf(interval);
        if (begin < 0 || begin > LAST_TIME - length) {
            throw new IllegalArgumentException("begin or the new end is out of range");
        }
        int previous = begins[interval];
        begins[interval] = begin;
        ends[interval] = begin + length;
        acceptedSet &= ~only(interval);
        return previous;
    }

    public int intervals() {
        return Long.bitCount(presentSet);
    }

    public long present() {
        return presentSet;
    }

    public long overlapping(int interval) throws IndexOutOfBoundsException {
        requireThere(interval);
        return othersMeeting(interval);
    }

    // ---- rooms

    public int rooms() {
        int time = leastDeepestTime();
        return time == NONE ? 0 : depthAt(time);
    }

    public int roomOf(int interval) throws IndexOutOfBoundsException {
        requireThere(interval);
        fill(givenRooms.row, presentSet);
        return givenRooms.givenTo(interval);
    }

    public int depth(int time) throws IllegalArgumentException {
        if (time < 0 || time > LAST_TIME) {
            throw new IllegalArgumentException("time is out of range");
        }
        return depthAt(time);
    }

    public int busiest() {
        return leastDeepestTime();
    }

    public int earliest(int length, int rooms) throws IllegalArgumentException {
        if (length < 1 || length > LAST_TIME) {
            throw new IllegalArgumentException("length is out of range");
        }
        if (rooms < 1 || rooms > MOST_INTERVALS) {
            throw new IllegalArgumentException("rooms is out of range");
        }
        if (fits(0, length, rooms)) {
            return 0;
        }
        return earliestEndThatFits(length, rooms);
    }

    // ---- plans

    public int heaviest() {
        return heaviestForOne(presentSet);
    }

    public long chosen() {
        fill(oneRoom.row, presentSet);
        return oneRoom.chosenSet();
    }

    public int most() {
        fill(oneRoom.row, presentSet);
        return oneRoom.greatestNumber();
    }

    public int heaviestIn(int rooms) throws IllegalArgumentException {
        requirePlannedRooms(rooms);
        return heaviestForMany(presentSet, rooms);
    }

    public int lossWithout(int interval, int rooms)
            throws IndexOutOfBoundsException, IllegalArgumentException {
        requireThere(interval);
        requirePlannedRooms(rooms);
        int whole = heaviestForMany(presentSet, rooms);
        return whole - heaviestForMany(presentSet & ~only(interval), rooms);
    }

    // ---- the desk

    public int openDesk(int factor) throws IllegalArgumentException {
        if (factor < LEAST_FACTOR || factor > MOST_FACTOR) {
            throw new IllegalArgumentException("factor is out of range");
        }
        int before = weightOf(acceptedSet);
        this.factor = factor;
        offeredSet = 0;
        acceptedSet = 0;
        dropped = 0;
        return before;
    }

    public int offer(int interval) throws IndexOutOfBoundsException, IllegalStateException {
        requireThere(interval);
        if (contains(offeredSet, interval)) {
            throw new IllegalStateException("the interval was offered already");
        }
        offeredSet |= only(interval);
        long rivals = othersMeeting(interval) & acceptedSet;
        int rivalWeight = weightOf(rivals);
        if (100 * weights[interval] <= factor * rivalWeight) {
            return NONE;
        }
        acceptedSet = (acceptedSet & ~rivals) | only(interval);
        dropped += rivalWeight;
        return rivalWeight;
    }

    public long accepted() {
        return acceptedSet;
    }

    public int acceptedWeight() {
        return weightOf(acceptedSet);
    }

    public int droppedWeight() {
        return dropped;
    }

    public int bestOfOffered() {
        return heaviestForOne(presentSet & offeredSet);
    }

    // ---- circles

    public int depthRound(int period) throws IllegalArgumentException, IllegalStateException {
        requireCircle(period);
        int greatest = 0;
        for (int number = 0; number < added; number++) {
            if (contains(presentSet, number)) {
                greatest = Math.max(greatest, depthOnCircle(begins[number], period));
            }
        }
        return greatest;
    }

    public int heaviestRound(int period) throws IllegalArgumentException, IllegalStateException {
        requireCircle(period);
        // Those that run on past a full turn all overlap: a set has none of them, or just one.
        int greatest = heaviestBeside(0, 0, period);
        for (int number = 0; number < added; number++) {
            if (contains(presentSet, number) && runsPastTurn(number, period)) {
                int beside = heaviestBeside(begins[number], lengthOf(number), period);
                greatest = Math.max(greatest, weights[number] + beside);
            }
        }
        return greatest;
    }

    // ---- what a call refuses

    private void requireThere(int interval) {
        if (interval < 0 || interval >= added || !contains(presentSet, interval)) {
            throw new IndexOutOfBoundsException("there is no such interval");
        }
    }

    private static void requirePlannedRooms(int rooms) {
        if (rooms < 1 || rooms > MOST_PLANNED_ROOMS) {
            throw new IllegalArgumentException("rooms is out of range");
        }
    }

    private void requireCircle(int period) {
        if (period < 1 || period > LONGEST_PERIOD) {
            throw new IllegalArgumentException("period is out of range");
        }
        for (int number = 0; number < added; number++) {
            if (contains(presentSet, number) && lengthOf(number) > period) {
                throw new IllegalStateException("an interval is longer than the period");
            }
        }
    }

    // ---- sets and single intervals

    private static long only(int number) {
        return 1L << number;
    }

    private static boolean contains(long set, int number) {
        return (set & only(number)) != 0;
    }

    private int lengthOf(int number) {
        return ends[number] - begins[number];
    }

    private int weightOf(long set) {
        int sum = 0;
        for (int number = 0; number < added; number++) {
            if (contains(set, number)) {
                sum += weights[number];
            }
        }
        return sum;
    }

    private long othersMeeting(int interval) {
        long met = 0;
        for (int number = 0; number < added; number++) {
            if (begins[number] < ends[interval] && begins[interval] < ends[number]) {
                met |= only(number);
            }
        }
        return met & presentSet & ~only(interval);
    }

    // ---- depths

    private int depthAt(int time) {
        int depth = 0;
        for (int number = 0; number < added; number++) {
            if (contains(presentSet, number) && begins[number] <= time && time < ends[number]) {
                depth++;
            }
        }
        return depth;
    }

    /** Only the begins are looked at, as the depth rises nowhere else. */
    private int leastDeepestTime() {
        int deepest = NONE;
        int greatest = 0;
        for (int number = 0; number < added; number++) {
            int begin = begins[number];
            int depth = contains(presentSet, number) ? depthAt(begin) : 0;
            if (depth > greatest || (depth == greatest && begin < deepest)) {
                deepest = begin;
                greatest = depth;
            }
        }
        return deepest;
    }

    /** Above 0 only the ends are looked at, as the depth falls nowhere else. */
    private int earliestEndThatFits(int length, int rooms) {
        int earliest = NONE;
        for (int number = 0; number < added; number++) {
            int end = ends[number];
            if (contains(presentSet, number) && (earliest == NONE || end < earliest)
                    && fits(end, length, rooms)) {
                earliest = end;
            }
        }
        return earliest;
    }

    private boolean fits(int begin, int length, int rooms) {
        if (begin > LAST_TIME - length || depthAt(begin) >= rooms) {
            return false;
        }
        for (int number = 0; number < added; number++) {
            int time = begins[number];
            if (time > begin && time < begin + length && depthAt(time) >= rooms) {
                return false;
            }
        }
        return true;
    }

    // ---- filling the rows

    private void fill(Row row, long set) {
        row.clear();
        for (int number = 0; number < added; number++) {
            if (contains(set, number)) {
                row.put(number, begins[number], ends[number], weights[number]);
            }
        }
    }

    /** Beside a taken piece the circle is a line, from that piece's begin on to the full turn. */
    private void fillBeside(int taken, int length, int period) {
        oneRoom.row.clear();
        for (int number = 0; number < added; number++) {
            int begin = turned(begins[number] - taken, period);
            int end = begin + lengthOf(number);
            if (contains(presentSet, number) && begin >= length && end <= period) {
                oneRoom.row.put(number, begin, end, weights[number]);
            }
        }
    }

    // ---- answers for a set

    private int heaviestForOne(long set) {
        fill(oneRoom.row, set);
        return oneRoom.greatestWeight();
    }

    private int heaviestForMany(long set, int rooms) {
        fill(manyRooms.row, set);
        return manyRooms.greatestWeight(rooms);
    }

    // ---- answers on a circle

    private int heaviestBeside(int taken, int length, int period) {
        fillBeside(taken, length, period);
        return oneRoom.greatestWeight();
    }

    private boolean runsPastTurn(int number, int period) {
        return turned(begins[number], period) + lengthOf(number) > period;
    }

    private int depthOnCircle(int time, int period) {
        int depth = 0;
        for (int number = 0; number < added; number++) {
            if (contains(presentSet, number)
                    && turned(time - begins[number], period) < lengthOf(number)) {
                depth++;
            }
        }
        return depth;
    }

    private static int turned(int time, int period) {
        return period < 1 ? 0 : Math.floorMod(time, period);
    }

    /** Intervals by rising begins or by rising ends; those with the same, as they were put. */
    private static final class Row {
        private final boolean byEnd;
        private final int[] numbers;
        private final int[] begins;
        private final int[] ends;
        private final int[] weights;
        private int count;

        Row(boolean byEnd) {
            this.byEnd = byEnd;
            numbers = new int[MOST_INTERVALS];
            begins = new int[MOST_INTERVALS];
            ends = new int[MOST_INTERVALS];
            weights = new int[MOST_INTERVALS];
        }

        void clear() {
            count = 0;
        }

        void put(int number, int begin, int end, int weight) {
            if (count >= MOST_INTERVALS) {
                return;
            }
            int place = count;
            while (place > 0 && comesBehind(place - 1, begin, end)) {
                shiftUp(place - 1);
                place--;
            }
            numbers[place] = number;
            begins[place] = begin;
            ends[place] = end;
            weights[place] = weight;
            count++;
        }

        private boolean comesBehind(int place, int begin, int end) {
            return byEnd ? ends[place] > end : begins[place] > begin;
        }

        private void shiftUp(int place) {
            numbers[place + 1] = numbers[place];
            begins[place + 1] = begins[place];
            ends[place + 1] = ends[place];
            weights[place + 1] = weights[place];
        }
    }

    /** The rooms that the intervals of a row are given, by rising begins. */
    private static final class GivenRooms {
        private final Row row;
        /** The end of the last interval that a room was given to. */
        private final int[] freeFrom;

        GivenRooms() {
            row = new Row(false);
            freeFrom = new int[MOST_INTERVALS];
        }

        int givenTo(int number) {
            clearRooms();
            for (int place = 0; place < row.count; place++) {
                int room = lowestFreeRoom(row.begins[place]);
                if (row.numbers[place] == number) {
                    return room;
                }
                freeFrom[room] = row.ends[place];
            }
            return NONE;
        }

        private void clearRooms() {
            for (int room = 0; room < MOST_INTERVALS; room++) {
                freeFrom[room] = 0;
            }
        }

        private int lowestFreeRoom(int begin) {
            int room = 0;
            // As many rooms as intervals: the last one is free whenever all others are taken.
            while (room < MOST_INTERVALS - 1 && freeFrom[room] > begin) {
                room++;
            }
            return room;
        }
    }

    /** Plans for one room. */
    private static final class OneRoomPlan {
        private final Row row;
        /** best[j] is the weight of a heaviest plan of the first j intervals of the row. */
        private final int[] best;

        OneRoomPlan() {
            row = new Row(true);
            best = new int[MOST_INTERVALS + 1];
        }

        int greatestWeight() {
            best[0] = 0;
            for (int j = 1; j <= row.count; j++) {
                int withLast = row.weights[j - 1] + best[endedBy(row.begins[j - 1])];
                best[j] = Math.max(best[j - 1], withLast);
            }
            return best[row.count];
        }

        long chosenSet() {
            greatestWeight();
            long set = 0;
            int left = row.count;
            for (int j = row.count; j > 0; j--) {
                if (j <= left && best[j] != best[j - 1]) {
                    set |= only(row.numbers[j - 1]);
                    left = endedBy(row.begins[j - 1]);
                }
            }
            return set;
        }

        int greatestNumber() {
            int number = 0;
            int free = 0;
            for (int place = 0; place < row.count; place++) {
                if (row.begins[place] >= free) {
                    number++;
                    free = row.ends[place];
                }
            }
            return number;
        }

        private int endedBy(int time) {
            int ended = 0;
            while (ended < row.count && row.ends[ended] <= time) {
                ended++;
            }
            return ended;
        }
    }

    /**
     * Plans for several rooms.
     *
     * A room goes from stop 0 to the stop behind the last interval. At the stop i it may take the
     * interval at place i, which leads to the first interval that begins no earlier than that one
     * ends, or wait, which leads to the stop i + 1. Rooms are sent off one after another, each
     * along the way with the greatest gain; a later room may undo what an earlier one did, by
     * going that piece backwards. So the rooms together always have the greatest weight.
     */
    private static final class ManyRoomsPlan {
        private final Row row;
        private final int[] stopAfter;
        private final boolean[] taken;
        private final int[] waiting;
        private final int[] gain;
        private final int[] cameFrom;
        private final boolean[] cameByTaking;

        ManyRoomsPlan() {
            row = new Row(false);
            stopAfter = new int[MOST_INTERVALS];
            taken = new boolean[MOST_INTERVALS];
            waiting = new int[MOST_INTERVALS];
            gain = new int[MOST_INTERVALS + 1];
            cameFrom = new int[MOST_INTERVALS + 1];
            cameByTaking = new boolean[MOST_INTERVALS + 1];
        }

        int greatestWeight(int rooms) {
            clearRooms();
            int weight = 0;
            for (int room = 0; room < rooms; room++) {
                findBestWay();
                weight += gain[row.count];
                goBestWay();
            }
            return weight;
        }

        private void clearRooms() {
            for (int place = 0; place < row.count; place++) {
                taken[place] = false;
                waiting[place] = 0;
                stopAfter[place] = firstBegunFrom(row.ends[place], place + 1);
            }
        }

        private int firstBegunFrom(int time, int from) {
            int place = from;
            while (place < row.count && row.begins[place] < time) {
                place++;
            }
            return place;
        }

        private void findBestWay() {
            // Waiting all the time leads to every stop, with no gain.
            for (int stop = 0; stop <= row.count; stop++) {
                gain[stop] = 0;
                cameFrom[stop] = stop - 1;
                cameByTaking[stop] = false;
            }
            // A best way visits each stop once, so more rounds than stops are never needed.
            for (int round = 0; round <= row.count && improveForwards(); round++) {
                improveBackwards();
            }
        }

        private boolean improveForwards() {
            boolean better = false;
            for (int stop = 0; stop < row.count; stop++) {
                if (reach(stop + 1, stop, gain[stop], false)) {
                    better = true;
                }
                int gainByTaking = gain[stop] + row.weights[stop];
                if (!taken[stop] && reach(stopAfter[stop], stop, gainByTaking, true)) {
                    better = true;
                }
            }
            return better;
        }

        /** Leaves no piece backwards that gains more, so only the forward ones need a new look. */
        private void improveBackwards() {
            for (int stop = row.count - 1; stop >= 0; stop--) {
                if (waiting[stop] > 0) {
                    reach(stop, stop + 1, gain[stop + 1], false);
                }
                if (taken[stop]) {
                    int after = stopAfter[stop];
                    reach(stop, after, gain[after] - row.weights[stop], true);
                }
            }
        }

        private boolean reach(int stop, int from, int newGain, boolean byTaking) {
            if (newGain <= gain[stop]) {
                return false;
            }
            gain[stop] = newGain;
            cameFrom[stop] = from;
            cameByTaking[stop] = byTaking;
            return true;
        }

        private void goBestWay() {
            int stop = row.count;
            for (int steps = 0; stop > 0 && steps <= row.count; steps++) {
                int from = cameFrom[stop];
                boolean forwards = from < stop;
                int place = Math.min(from, stop);
                if (cameByTaking[stop]) {
                    taken[place] = forwards;
                } else {
                    waiting[place] += forwards ? 1 : -1;
                }
                stop = from;
            }
        }
    }
}
