import java.util.ArrayList;
import java.util.BitSet;
import java.util.Collection;
import java.util.Comparator;
import java.util.HashMap;
import java.util.HashSet;
import java.util.List;
import java.util.Map;
import java.util.Set;

/**
 * Answers as the document's words say them, time by time and with no care for speed, to hold
 * Roomcolour against. It shares no way of reckoning with it.
 */
final class PlainModel {
    private static final class Span {
        int begin;
        int end;
        int weight;

        BitSet times() {
            BitSet times = new BitSet();
            times.set(begin, end);
            return times;
        }

        BitSet timesModulo(int period) {
            BitSet times = new BitSet();
            for (int time = begin; time < end; time++) {
                times.set(time % period);
            }
            return times;
        }
    }

    private final List<Span> spans = new ArrayList<>();
    private final Set<Integer> there = new HashSet<>();
    private final Set<Integer> offered = new HashSet<>();
    private final Set<Integer> accepted = new HashSet<>();
    private int factor = 100;
    private int dropped;

    // ---- intervals

    int add(int begin, int end, int weight) {
        argument(begin >= 0 && begin <= 999);
        argument(end >= begin + 1 && end <= 1000);
        argument(weight >= 1 && weight <= 1000);
        state(spans.size() < 40);
        Span span = new Span();
        span.begin = begin;
        span.end = end;
        span.weight = weight;
        spans.add(span);
        there.add(spans.size() - 1);
        return spans.size() - 1;
    }

    int remove(int interval) {
        index(interval);
        there.remove(interval);
        accepted.remove(interval);
        return there.size();
    }

    int move(int interval, int begin) {
        index(interval);
        Span span = spans.get(interval);
        int length = span.end - span.begin;
        argument(begin >= 0 && begin <= 999);
        argument(begin + length <= 1000);
        int previous = span.begin;
        span.begin = begin;
        span.end = begin + length;
        accepted.remove(interval);
        return previous;
    }

    int intervals() {
        return there.size();
    }

    long present() {
        return mask(there);
    }

    long overlapping(int interval) {
        index(interval);
        return mask(rivals(interval, there));
    }

    // ---- rooms

    int rooms() {
        int most = 0;
        for (int time = 0; time <= 1000; time++) {
            most = Math.max(most, depthOf(there, time));
        }
        return most;
    }

    int roomOf(int interval) {
        index(interval);
        List<Integer> order = new ArrayList<>(there);
        order.sort(Comparator.<Integer>comparingInt(i -> spans.get(i).begin)
                .thenComparingInt(i -> i));
        Map<Integer, Integer> given = new HashMap<>();
        for (int next : order) {
            int room = 0;
            while (roomIsTaken(given, room, next)) {
                room++;
            }
            given.put(next, room);
        }
        return given.get(interval);
    }

    private boolean roomIsTaken(Map<Integer, Integer> given, int room, int next) {
        for (Map.Entry<Integer, Integer> entry : given.entrySet()) {
            if (entry.getValue() == room && overlap(entry.getKey(), next)) {
                return true;
            }
        }
        return false;
    }

    int depth(int time) {
        argument(time >= 0 && time <= 1000);
        return depthOf(there, time);
    }

    int busiest() {
        if (there.isEmpty()) {
            return -1;
        }
        int most = rooms();
        int time = 0;
        while (depthOf(there, time) != most) {
            time++;
        }
        return time;
    }

    int earliest(int length, int rooms) {
        argument(length >= 1 && length <= 1000);
        argument(rooms >= 1 && rooms <= 40);
        int[] depths = new int[1000];
        for (int time = 0; time < 1000; time++) {
            depths[time] = depthOf(there, time);
        }
        for (int begin = 0; begin + length <= 1000; begin++) {
            int time = begin;
            while (time < begin + length && depths[time] < rooms) {
                time++;
            }
            if (time == begin + length) {
                return begin;
            }
        }
        return -1;
    }

    // ---- plans

    int heaviest() {
        return heaviestApart(mask(there), meetings(0), false);
    }

    long chosen() {
        List<Integer> order = new ArrayList<>(there);
        order.sort(Comparator.<Integer>comparingInt(i -> spans.get(i).end)
                .thenComparingInt(i -> i));
        long[] meetings = meetings(0);
        int[] best = new int[order.size() + 1];
        for (int j = 0; j <= order.size(); j++) {
            best[j] = heaviestApart(mask(order.subList(0, j)), meetings, false);
        }
        long plan = 0;
        int j = order.size();
        while (j > 0) {
            if (best[j] == best[j - 1]) {
                j--;
            } else {
                int taken = order.get(j - 1);
                plan |= 1L << taken;
                j = 0;
                for (int i : there) {
                    j += spans.get(i).end <= spans.get(taken).begin ? 1 : 0;
                }
            }
        }
        return plan;
    }

    int most() {
        return heaviestApart(mask(there), meetings(0), true);
    }

    int heaviestIn(int rooms) {
        argument(rooms >= 1 && rooms <= 6);
        return heaviestOf(there, rooms);
    }

    int lossWithout(int interval, int rooms) {
        index(interval);
        argument(rooms >= 1 && rooms <= 6);
        Set<Integer> others = new HashSet<>(there);
        others.remove(interval);
        return heaviestOf(there, rooms) - heaviestOf(others, rooms);
    }

    /** Keeps, for every set of ends of the intervals that still run, the greatest weight so far. */
    private int heaviestOf(Set<Integer> set, int rooms) {
        List<Integer> order = new ArrayList<>(set);
        order.sort(Comparator.comparingInt(i -> spans.get(i).begin));
        Map<List<Integer>, Integer> weights = new HashMap<>();
        weights.put(List.of(), 0);
        for (int i : order) {
            Span span = spans.get(i);
            Map<List<Integer>, Integer> next = new HashMap<>();
            for (Map.Entry<List<Integer>, Integer> entry : weights.entrySet()) {
                List<Integer> running = new ArrayList<>(entry.getKey());
                running.removeIf(end -> end <= span.begin);
                next.merge(List.copyOf(running), entry.getValue(), Math::max);
                if (running.size() < rooms) {
                    running.add(span.end);
                    running.sort(null);
                    next.merge(List.copyOf(running), entry.getValue() + span.weight, Math::max);
                }
            }
            weights = next;
        }
        int greatest = 0;
        for (int weight : weights.values()) {
            greatest = Math.max(greatest, weight);
        }
        return greatest;
    }

    // ---- the desk

    int openDesk(int newFactor) {
        argument(newFactor >= 100 && newFactor <= 400);
        int before = weightOf(accepted);
        factor = newFactor;
        offered.clear();
        accepted.clear();
        dropped = 0;
        return before;
    }

    int offer(int interval) {
        index(interval);
        state(!offered.contains(interval));
        offered.add(interval);
        Set<Integer> rivals = rivals(interval, accepted);
        int rivalWeight = weightOf(rivals);
        if (rivals.isEmpty() || 100 * spans.get(interval).weight > factor * rivalWeight) {
            accepted.removeAll(rivals);
            accepted.add(interval);
            dropped += rivalWeight;
            return rivalWeight;
        }
        return -1;
    }

    long accepted() {
        return mask(accepted);
    }

    int acceptedWeight() {
        return weightOf(accepted);
    }

    int droppedWeight() {
        return dropped;
    }

    int bestOfOffered() {
        return heaviestApart(mask(there) & mask(offered), meetings(0), false);
    }

    // ---- circles

    int depthRound(int period) {
        circle(period);
        int[] depths = new int[period];
        int most = 0;
        for (int i : there) {
            BitSet times = spans.get(i).timesModulo(period);
            for (int time = 0; time < period; time++) {
                depths[time] += times.get(time) ? 1 : 0;
                most = Math.max(most, depths[time]);
            }
        }
        return most;
    }

    int heaviestRound(int period) {
        circle(period);
        return heaviestApart(mask(there), meetings(period), false);
    }

    // ---- helpers

    /** For each interval the set of the others that overlap it; on a circle unless period is 0. */
    private long[] meetings(int period) {
        BitSet[] times = new BitSet[spans.size()];
        for (int i : there) {
            times[i] = period == 0 ? spans.get(i).times() : spans.get(i).timesModulo(period);
        }
        long[] meetings = new long[spans.size()];
        for (int i : there) {
            for (int other : there) {
                if (i != other && times[i].intersects(times[other])) {
                    meetings[i] |= 1L << other;
                }
            }
        }
        return meetings;
    }

    private int heaviestApart(long set, long[] meetings, boolean counting) {
        return heaviestApart(set, meetings, counting, new HashMap<>());
    }

    /** With or without the interval that meets most others, until none meets another one. */
    private int heaviestApart(long set, long[] meetings, boolean counting,
            Map<Long, Integer> known) {
        Integer before = known.get(set);
        if (before != null) {
            return before;
        }
        int worst = -1;
        int sum = 0;
        for (int i = 0; i < spans.size(); i++) {
            if ((set >> i & 1) != 0) {
                int meets = Long.bitCount(meetings[i] & set);
                if (meets > (worst < 0 ? 0 : Long.bitCount(meetings[worst] & set))) {
                    worst = i;
                }
                sum += counting ? 1 : spans.get(i).weight;
            }
        }
        if (worst >= 0) {
            long others = set & ~(1L << worst);
            int own = counting ? 1 : spans.get(worst).weight;
            sum = Math.max(heaviestApart(others, meetings, counting, known),
                    own + heaviestApart(others & ~meetings[worst], meetings, counting, known));
        }
        known.put(set, sum);
        return sum;
    }

    private Set<Integer> rivals(int interval, Set<Integer> among) {
        Set<Integer> rivals = new HashSet<>();
        for (int other : among) {
            if (other != interval && overlap(interval, other)) {
                rivals.add(other);
            }
        }
        return rivals;
    }

    private boolean overlap(int one, int other) {
        return spans.get(one).times().intersects(spans.get(other).times());
    }

    private int depthOf(Set<Integer> set, int time) {
        int depth = 0;
        for (int i : set) {
            depth += spans.get(i).begin <= time && time < spans.get(i).end ? 1 : 0;
        }
        return depth;
    }

    private int weightOf(Set<Integer> set) {
        int sum = 0;
        for (int i : set) {
            sum += spans.get(i).weight;
        }
        return sum;
    }

    private static long mask(Collection<Integer> set) {
        long mask = 0;
        for (int i : set) {
            mask |= 1L << i;
        }
        return mask;
    }

    private void index(int interval) {
        if (!there.contains(interval)) {
            throw new IndexOutOfBoundsException();
        }
    }

    private static void argument(boolean right) {
        if (!right) {
            throw new IllegalArgumentException();
        }
    }

    private static void state(boolean right) {
        if (!right) {
            throw new IllegalStateException();
        }
    }

    private void circle(int period) {
        argument(period >= 1 && period <= 1000);
        for (int i : there) {
            state(spans.get(i).end - spans.get(i).begin <= period);
        }
    }
}
