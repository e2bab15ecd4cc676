import java.util.ArrayList;
import java.util.Comparator;
import java.util.List;

/** The document's words with no sum kept: every answer is told anew from the list of machines. */
final class Model {
    static final long ARGUMENT = Long.MIN_VALUE;
    static final long STATE = Long.MIN_VALUE + 1;
    static final long INDEX = Long.MIN_VALUE + 2;

    private static final class M {
        int number;
        int slots;
        int power;
        int weight;
        int cords;
        int rack;
        int slot;

        M copy() {
            M m = new M();
            m.number = number;
            m.slots = slots;
            m.power = power;
            m.weight = weight;
            m.cords = cords;
            m.rack = rack;
            m.slot = slot;
            return m;
        }
    }

    private final List<int[]> racks = new ArrayList<>();
    private final int[][] rows = {{10000, 10000}, {10000, 10000}, {10000, 10000}, {10000, 10000}};
    private final int[] feeds = {20000, 20000};
    private final boolean[] down = new boolean[2];
    private List<M> all = new ArrayList<>();
    private int made;

    long addRack(int row, int slots, int weight, int power) {
        if (out(row, 0, 3) || out(slots, 1, 20) || out(weight, 0, 10000) || out(power, 0, 10000)) {
            return ARGUMENT;
        }
        if (racks.size() == 8) {
            return STATE;
        }
        racks.add(new int[] {row, slots, weight, power});
        return racks.size() - 1;
    }

    long setRow(int row, int heat, int weight) {
        if (out(row, 0, 3) || out(heat, 0, 10000) || out(weight, 0, 10000)) {
            return ARGUMENT;
        }
        int[] loads = rowLoads(all, row);
        if (loads[0] > heat || loads[1] > weight) {
            return STATE;
        }
        rows[row] = new int[] {heat, weight};
        return 0;
    }

    long setFeed(int feed, int power) {
        if (out(feed, 0, 1) || out(power, 0, 20000)) {
            return ARGUMENT;
        }
        if (feedWorst(all, feed) > power) {
            return STATE;
        }
        int before = feeds[feed];
        feeds[feed] = power;
        return before;
    }

    long switchFeed(int feed) {
        if (out(feed, 0, 1)) {
            return ARGUMENT;
        }
        down[feed] ^= true;
        return all.stream().filter(this::dark).count();
    }

    long hasFailed(int feed) {
        return out(feed, 0, 1) ? ARGUMENT : down[feed] ? 1 : 0;
    }

    long racks() {
        return racks.size();
    }

    long place(int slots, int power, int weight, int cords) {
        if (badKind(slots, power, weight, cords)) {
            return ARGUMENT;
        }
        M m = kind(slots, power, weight, cords);
        if (all.size() == 60 || !settle(all, m)) {
            return STATE;
        }
        m.number = made++;
        return m.number;
    }

    long takeOut(int machine) {
        M m = find(machine);
        if (m == null) {
            return INDEX;
        }
        all.remove(m);
        return m.rack;
    }

    long cord(int machine, int cords) {
        M m = find(machine);
        if (m == null) {
            return INDEX;
        }
        if (out(cords, 0, 2)) {
            return ARGUMENT;
        }
        int before = m.cords;
        m.cords = cords;
        for (int feed = 0; feed < 2; feed++) {
            if (rackWorst(all, m.rack, feed) > racks.get(m.rack)[3] || feedWorst(all, feed) > feeds[feed]) {
                m.cords = before;
                return STATE;
            }
        }
        return before;
    }

    long pack() {
        List<M> sorted = new ArrayList<>(all);
        sorted.sort(Comparator.<M>comparingInt(m -> -m.slots).thenComparingInt(m -> -m.power).thenComparingInt(m -> m.number));
        List<M> packed = new ArrayList<>();
        long moved = 0;
        for (M m : sorted) {
            M c = m.copy();
            if (!settle(packed, c)) {
                return -1;
            }
            if (c.rack != m.rack || c.slot != m.slot) {
                moved++;
            }
        }
        all = packed;
        return moved;
    }

    long machines() {
        return all.size();
    }

    long rackOf(int machine) {
        M m = find(machine);
        return m == null ? INDEX : m.rack;
    }

    long slotOf(int machine) {
        M m = find(machine);
        return m == null ? INDEX : m.slot;
    }

    long isDark(int machine) {
        M m = find(machine);
        return m == null ? INDEX : dark(m) ? 1 : 0;
    }

    long machineAt(int rack, int slot) {
        if (out(rack, 0, racks.size() - 1) || out(slot, 0, racks.get(rack)[1] - 1)) {
            return INDEX;
        }
        M m = at(all, rack, slot);
        return m == null ? -1 : m.number;
    }

    long next(int machine) {
        M last = find(machine);
        if (machine != -1 && last == null) {
            return INDEX;
        }
        M best = null;
        for (M m : all) {
            boolean behind = last == null || m.rack > last.rack || m.rack == last.rack && m.slot > last.slot;
            if (behind && (best == null || m.rack < best.rack || m.rack == best.rack && m.slot < best.slot)) {
                best = m;
            }
        }
        return best == null ? -1 : best.number;
    }

    long powerOf(int rack, int feed) {
        if (out(rack, 0, racks.size() - 1)) {
            return INDEX;
        }
        if (out(feed, 0, 1)) {
            return ARGUMENT;
        }
        long sum = 0;
        for (M m : all) {
            sum += m.rack == rack ? now(m, feed) : 0;
        }
        return sum;
    }

    long worstOf(int rack, int feed) {
        if (out(rack, 0, racks.size() - 1)) {
            return INDEX;
        }
        return out(feed, 0, 1) ? ARGUMENT : rackWorst(all, rack, feed);
    }

    long weightOf(int rack) {
        if (out(rack, 0, racks.size() - 1)) {
            return INDEX;
        }
        return rackWeight(all, rack);
    }

    long heatOf(int row) {
        if (out(row, 0, 3)) {
            return ARGUMENT;
        }
        return all.stream().filter(m -> rowOf(m) == row && !dark(m)).mapToInt(m -> m.power).sum();
    }

    long gap(int rack) {
        if (out(rack, 0, racks.size() - 1)) {
            return INDEX;
        }
        int best = 0;
        for (int low = 0; low < racks.get(rack)[1]; low++) {
            for (int n = 1; free(all, rack, low, n); n++) {
                best = Math.max(best, n);
            }
        }
        return best;
    }

    long racksFor(int slots, int power, int weight, int cords) {
        if (badKind(slots, power, weight, cords)) {
            return ARGUMENT;
        }
        long found = 0;
        for (int rack = 0; rack < racks.size(); rack++) {
            List<M> tried = new ArrayList<>(all);
            if (settleIn(tried, kind(slots, power, weight, cords), rack)) {
                found += (long) Math.pow(2, rack);
            }
        }
        return found;
    }

    long roomFor(int slots, int power, int weight, int cords) {
        if (badKind(slots, power, weight, cords)) {
            return ARGUMENT;
        }
        List<M> tried = new ArrayList<>(all);
        long count = 0;
        while (settle(tried, kind(slots, power, weight, cords))) {
            count++;
        }
        return count;
    }

    private static boolean out(int value, int least, int most) {
        return value < least || value > most;
    }

    private static boolean badKind(int slots, int power, int weight, int cords) {
        return out(slots, 1, 6) || out(power, 0, 2000) || out(weight, 0, 1000) || out(cords, 0, 2);
    }

    private static M kind(int slots, int power, int weight, int cords) {
        M m = new M();
        m.number = -5;
        m.slots = slots;
        m.power = power;
        m.weight = weight;
        m.cords = cords;
        return m;
    }

    private M find(int number) {
        return all.stream().filter(m -> m.number == number).findFirst().orElse(null);
    }

    private int rowOf(M m) {
        return racks.get(m.rack)[0];
    }

    private static boolean corded(M m, int feed) {
        return m.cords == 2 || m.cords == feed;
    }

    private boolean dark(M m) {
        boolean fed = corded(m, 0) && !down[0] || corded(m, 1) && !down[1];
        return !fed;
    }

    private int now(M m, int feed) {
        if (!corded(m, feed) || down[feed]) {
            return 0;
        }
        if (m.cords == 2 && !down[1 - feed]) {
            return feed == 0 ? (m.power + 1) / 2 : m.power / 2;
        }
        return m.power;
    }

    private static M at(List<M> list, int rack, int slot) {
        return list.stream().filter(m -> m.rack == rack && m.slot <= slot && slot < m.slot + m.slots).findFirst().orElse(null);
    }

    private boolean free(List<M> list, int rack, int low, int slots) {
        for (int slot = low; slot < low + slots; slot++) {
            if (slot >= racks.get(rack)[1] || at(list, rack, slot) != null) {
                return false;
            }
        }
        return true;
    }

    private boolean settle(List<M> list, M m) {
        for (int rack = 0; rack < racks.size(); rack++) {
            if (settleIn(list, m, rack)) {
                return true;
            }
        }
        return false;
    }

    private boolean settleIn(List<M> list, M m, int rack) {
        for (int low = 0; low < racks.get(rack)[1]; low++) {
            if (free(list, rack, low, m.slots)) {
                m.rack = rack;
                m.slot = low;
                list.add(m);
                if (withinLimits(list, rack)) {
                    return true;
                }
                list.remove(list.size() - 1);
                return false;
            }
        }
        return false;
    }

    private boolean withinLimits(List<M> list, int rack) {
        int[] stand = racks.get(rack);
        int[] loads = rowLoads(list, stand[0]);
        boolean fine = rackWeight(list, rack) <= stand[2] && loads[0] <= rows[stand[0]][0] && loads[1] <= rows[stand[0]][1];
        for (int feed = 0; feed < 2; feed++) {
            fine &= rackWorst(list, rack, feed) <= stand[3] && feedWorst(list, feed) <= feeds[feed];
        }
        return fine;
    }

    private static int rackWeight(List<M> list, int rack) {
        return list.stream().filter(m -> m.rack == rack).mapToInt(m -> m.weight).sum();
    }

    private static int rackWorst(List<M> list, int rack, int feed) {
        return list.stream().filter(m -> m.rack == rack && corded(m, feed)).mapToInt(m -> m.power).sum();
    }

    private static int feedWorst(List<M> list, int feed) {
        return list.stream().filter(m -> corded(m, feed)).mapToInt(m -> m.power).sum();
    }

    private int[] rowLoads(List<M> list, int row) {
        int[] loads = new int[2];
        for (M m : list) {
            if (rowOf(m) == row) {
                loads[0] += m.power;
                loads[1] += m.weight;
            }
        }
        return loads;
    }
}
