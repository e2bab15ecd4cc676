import java.util.ArrayList;
import java.util.Arrays;

/**
 * A planner of racks: machines are placed slot by slot, first fit, within the weight of racks and
 * floors, the heat of rows, and the power of two feeds, so that one feed that fails darkens no
 * machine with two cords.
 */
public final class RackPlanner {
    private static final int ROWS = 4;
    private static final int FEEDS = 2;
    private static final int MAX_RACKS = 8;
    private static final int MAX_RACK_SLOTS = 20;
    private static final int CELLS = MAX_RACKS * MAX_RACK_SLOTS;
    private static final int MAX_LIMIT = 10000;
    private static final int MAX_FEED_LIMIT = 20000;
    private static final int MAX_MACHINES = 60;
    private static final int MAX_MACHINE_SLOTS = 6;
    private static final int MAX_MACHINE_POWER = 2000;
    private static final int MAX_MACHINE_WEIGHT = 1000;
    private static final int TWO_CORDS = 2;
    private static final int NONE = -1;

    private final Site site;
    private final boolean[] failed;
    /** By rising number: a machine that is taken out leaves the list. */
    private final ArrayList<Machine> placed;
    private final ArrayList<Machine> packing;
    private Layout layout;
    /** What pack and roomFor try out, so that the layout stays as it is until all fits. */
    private Layout spare;
    private int nextNumber;

    public RackPlanner() {
        site = new Site();
        failed = new boolean[FEEDS];
        placed = new ArrayList<>();
        packing = new ArrayList<>();
        layout = new Layout(site);
        spare = new Layout(site);
        nextNumber = 0;
    }

    // ---- racks, rows, feeds

    public int addRack(int row, int slots, int weight, int power) throws IllegalArgumentException, IllegalStateException {
        requireRange(row, 0, ROWS - 1);
        requireRange(slots, 1, MAX_RACK_SLOTS);
        requireRange(weight, 0, MAX_LIMIT);
        requireRange(power, 0, MAX_LIMIT);
        int number = site.racks.size();
        if (number >= MAX_RACKS) {
            throw new IllegalStateException("no more racks");
        }
        site.racks.add(new Rack(row, slots, weight, power));
        return number;
    }

    public void setRow(int row, int heat, int weight) throws IllegalArgumentException, IllegalStateException {
        requireRange(row, 0, ROWS - 1);
        requireRange(heat, 0, MAX_LIMIT);
        requireRange(weight, 0, MAX_LIMIT);
        if (layout.heatInRow(row) > heat || layout.weightInRow(row) > weight) {
            throw new IllegalStateException("the row's machines are above that");
        }
        site.rowHeat[row] = heat;
        site.rowWeight[row] = weight;
    }

    public int setFeed(int feed, int power) throws IllegalArgumentException, IllegalStateException {
        requireFeed(feed);
        requireRange(power, 0, MAX_FEED_LIMIT);
        if (layout.worstOnFeed(feed) > power) {
            throw new IllegalStateException("the worst on the feed is above that");
        }
        int before = site.feedPower[feed];
        site.feedPower[feed] = power;
        return before;
    }

    public int switchFeed(int feed) throws IllegalArgumentException {
        requireFeed(feed);
        failed[feed] = !failed[feed];
        int count = 0;
        for (int i = 0; i < placed.size(); i++) {
            if (hasNoFeed(placed.get(i))) {
                count++;
            }
        }
        return count;
    }

    public boolean hasFailed(int feed) throws IllegalArgumentException {
        requireFeed(feed);
        return failed[feed];
    }

    public int racks() {
        return site.racks.size();
    }

    // ---- machines

    public int place(int slots, int power, int weight, int cords) throws IllegalArgumentException, IllegalStateException {
        Machine machine = newMachine(slots, power, weight, cords);
        if (placed.size() >= MAX_MACHINES) {
            throw new IllegalStateException("no more machines");
        }
        int cell = layout.firstFit(machine);
        if (cell == NONE) {
            throw new IllegalStateException("the machine fits nowhere");
        }
        machine.cell = cell;
        layout.put(machine, cell);
        placed.add(machine);
        nextNumber++;
        return machine.number;
    }

    public int takeOut(int machine) throws IndexOutOfBoundsException {
        int index = indexOfPlaced(machine);
        Machine gone = placed.get(index);
        layout.clear(gone);
        placed.remove(index);
        return rackOfCell(gone.cell);
    }

    public int cord(int machine, int cords) throws IndexOutOfBoundsException, IllegalArgumentException, IllegalStateException {
        Machine corded = requireMachine(machine);
        requireRange(cords, 0, TWO_CORDS);
        if (!layout.bearsCords(corded, cords)) {
            throw new IllegalStateException("the worst on a feed would be above its limit");
        }
        int before = corded.cords;
        layout.changeCords(corded, cords);
        return before;
    }

    public int pack() {
        listForPacking();
        spare.clearAll();
        for (int i = 0; i < packing.size(); i++) {
            Machine machine = packing.get(i);
            int cell = spare.firstFit(machine);
            if (cell == NONE) {
                return NONE;
            }
            machine.packedCell = cell;
            spare.put(machine, cell);
        }
        swapLayouts();
        return moveToPacked();
    }

    public int machines() {
        return placed.size();
    }

    public int rackOf(int machine) throws IndexOutOfBoundsException {
        return rackOfCell(requireMachine(machine).cell);
    }

    public int slotOf(int machine) throws IndexOutOfBoundsException {
        return requireMachine(machine).cell % MAX_RACK_SLOTS;
    }

    public boolean isDark(int machine) throws IndexOutOfBoundsException {
        return hasNoFeed(requireMachine(machine));
    }

    public int machineAt(int rack, int slot) throws IndexOutOfBoundsException {
        Rack stand = requireRack(rack);
        if (slot < 0 || slot >= stand.slots) {
            throw new IndexOutOfBoundsException("no such slot");
        }
        return layout.inCell[cellAt(rack, slot)];
    }

    public int next(int machine) throws IndexOutOfBoundsException {
        if (machine == NONE) {
            return layout.firstFrom(0);
        }
        Machine last = requireMachine(machine);
        return layout.firstFrom(last.cell + last.slots);
    }

    // ---- loads

    public int powerOf(int rack, int feed) throws IndexOutOfBoundsException, IllegalArgumentException {
        requireRack(rack);
        requireFeed(feed);
        int sum = 0;
        for (int i = 0; i < placed.size(); i++) {
            Machine machine = placed.get(i);
            if (rackOfCell(machine.cell) == rack) {
                sum += powerNow(machine, feed);
            }
        }
        return sum;
    }

    public int worstOf(int rack, int feed) throws IndexOutOfBoundsException, IllegalArgumentException {
        requireRack(rack);
        requireFeed(feed);
        return layout.worst[feed][rack];
    }

    public int weightOf(int rack) throws IndexOutOfBoundsException {
        requireRack(rack);
        return layout.weight[rack];
    }

    public int heatOf(int row) throws IllegalArgumentException {
        requireRange(row, 0, ROWS - 1);
        int sum = 0;
        for (int i = 0; i < placed.size(); i++) {
            Machine machine = placed.get(i);
            if (rowOfMachine(machine) == row && !hasNoFeed(machine)) {
                sum += machine.power;
            }
        }
        return sum;
    }

    public int gap(int rack) throws IndexOutOfBoundsException {
        requireRack(rack);
        return layout.widestGap(rack);
    }

    // ---- what fits

    public int racksFor(int slots, int power, int weight, int cords) throws IllegalArgumentException {
        Machine machine = newMachine(slots, power, weight, cords);
        int found = 0;
        for (int rack = 0; rack < site.racks.size(); rack++) {
            if (layout.fitIn(rack, machine) != NONE) {
                found |= 1 << rack;
            }
        }
        return found;
    }

    public int roomFor(int slots, int power, int weight, int cords) throws IllegalArgumentException {
        Machine machine = newMachine(slots, power, weight, cords);
        spare.copyFrom(layout);
        int count = 0;
        // While loads only grow, a rack that is full for this kind stays so: each is filled once.
        for (int rack = 0; rack < site.racks.size(); rack++) {
            count += spare.fillUp(rack, machine);
        }
        return count;
    }

    public int roomByCounting(int slots, int power, int weight, int cords) throws IllegalArgumentException {
        Machine machine = newMachine(slots, power, weight, cords);
        int count = 0;
        for (int row = 0; row < ROWS; row++) {
            count += layout.countForRow(row, machine);
        }
        for (int feed = 0; feed < FEEDS; feed++) {
            int rest = site.feedPower[feed] - layout.worstOnFeed(feed);
            count = atMost(count, rest, machine.worstOn(feed));
        }
        return count;
    }

    // ---- arguments

    private static void requireRange(int value, int least, int most) {
        if (value < least || value > most) {
            throw new IllegalArgumentException("out of range");
        }
    }

    private static void requireFeed(int feed) {
        requireRange(feed, 0, FEEDS - 1);
    }

    private Rack requireRack(int rack) {
        if (rack < 0 || rack >= site.racks.size()) {
            throw new IndexOutOfBoundsException("no such rack");
        }
        return site.racks.get(rack);
    }

    private Machine requireMachine(int number) {
        return placed.get(indexOfPlaced(number));
    }

    private int indexOfPlaced(int number) {
        for (int i = 0; i < placed.size(); i++) {
            if (placed.get(i).number == number) {
                return i;
            }
        }
        throw new IndexOutOfBoundsException("no such machine");
    }

    private Machine newMachine(int slots, int power, int weight, int cords) {
        requireRange(slots, 1, MAX_MACHINE_SLOTS);
        requireRange(power, 0, MAX_MACHINE_POWER);
        requireRange(weight, 0, MAX_MACHINE_WEIGHT);
        requireRange(cords, 0, TWO_CORDS);
        return new Machine(nextNumber, slots, power, weight, cords);
    }

    // ---- cells: the slots of all racks one behind the other, MAX_RACK_SLOTS for each rack

    private static int cellAt(int rack, int slot) {
        return rack * MAX_RACK_SLOTS + slot;
    }

    private static int rackOfCell(int cell) {
        return cell / MAX_RACK_SLOTS;
    }

    private int rowOfMachine(Machine machine) {
        return site.racks.get(rackOfCell(machine.cell)).row;
    }

    // ---- feeds now

    private boolean hasNoFeed(Machine machine) {
        for (int feed = 0; feed < FEEDS; feed++) {
            if (machine.hasCordTo(feed) && !failed[feed]) {
                return false;
            }
        }
        return true;
    }

    private int powerNow(Machine machine, int feed) {
        if (failed[feed] || !machine.hasCordTo(feed)) {
            return 0;
        }
        if (machine.cords != TWO_CORDS || failed[FEEDS - 1 - feed]) {
            return machine.power;
        }
        int half = machine.power / 2;
        return feed == 0 ? machine.power - half : half;
    }

    // ---- packing

    /** As placed is by rising number, a machine goes behind all that are alike but for the number. */
    private void listForPacking() {
        packing.clear();
        for (int i = 0; i < placed.size(); i++) {
            Machine machine = placed.get(i);
            int position = packing.size();
            while (position > 0 && machine.packsAhead(packing.get(position - 1))) {
                position--;
            }
            packing.add(position, machine);
        }
    }

    private void swapLayouts() {
        Layout packed = spare;
        spare = layout;
        layout = packed;
    }

    private int moveToPacked() {
        int moved = 0;
        for (int i = 0; i < placed.size(); i++) {
            Machine machine = placed.get(i);
            if (machine.cell != machine.packedCell) {
                moved++;
            }
            machine.cell = machine.packedCell;
        }
        return moved;
    }

    // ---- counting

    /** No more than the rest bears; what takes nothing of the rest is not held back by it. */
    private static int atMost(int count, int rest, int each) {
        return each <= 0 ? count : Math.min(count, rest / each);
    }

    /** A machine that is asked for or placed. */
    private static final class Machine {
        final int number;
        final int slots;
        final int power;
        final int weight;
        int cords;
        int cell;
        int packedCell;

        Machine(int number, int slots, int power, int weight, int cords) {
            this.number = number;
            this.slots = slots;
            this.power = power;
            this.weight = weight;
            this.cords = cords;
            this.cell = NONE;
            this.packedCell = NONE;
        }

        boolean hasCordTo(int feed) {
            return leadTo(feed, cords);
        }

        /** What it takes from a feed if the other one has failed. */
        int worstOn(int feed) {
            return worstWith(feed, cords);
        }

        int worstWith(int feed, int otherCords) {
            return leadTo(feed, otherCords) ? power : 0;
        }

        private static boolean leadTo(int feed, int cords) {
            return cords == feed || cords == TWO_CORDS;
        }

        boolean packsAhead(Machine other) {
            return slots != other.slots ? slots > other.slots : power > other.power;
        }
    }

    /** A rack as it was added. */
    private static final class Rack {
        final int row;
        final int slots;
        final int weightLimit;
        final int powerLimit;

        Rack(int row, int slots, int weightLimit, int powerLimit) {
            this.row = row;
            this.slots = slots;
            this.weightLimit = weightLimit;
            this.powerLimit = powerLimit;
        }
    }

    /** The racks that stand, and the limits of rows and feeds. */
    private static final class Site {
        final ArrayList<Rack> racks = new ArrayList<>();
        final int[] rowHeat = new int[ROWS];
        final int[] rowWeight = new int[ROWS];
        final int[] feedPower = new int[FEEDS];

        Site() {
            Arrays.fill(rowHeat, MAX_LIMIT);
            Arrays.fill(rowWeight, MAX_LIMIT);
            Arrays.fill(feedPower, MAX_FEED_LIMIT);
        }
    }

    /** Which machine is in which cell, and the loads of the racks that follow from it. */
    private static final class Layout {
        final Site site;
        final int[] inCell = new int[CELLS];
        final int[] weight = new int[MAX_RACKS];
        final int[] heat = new int[MAX_RACKS];
        final int[][] worst = new int[FEEDS][MAX_RACKS];

        Layout(Site site) {
            this.site = site;
            Arrays.fill(inCell, NONE);
        }

        void clearAll() {
            Arrays.fill(inCell, NONE);
            Arrays.fill(weight, 0);
            Arrays.fill(heat, 0);
            for (int feed = 0; feed < FEEDS; feed++) {
                Arrays.fill(worst[feed], 0);
            }
        }

        void copyFrom(Layout other) {
            System.arraycopy(other.inCell, 0, inCell, 0, CELLS);
            System.arraycopy(other.weight, 0, weight, 0, MAX_RACKS);
            System.arraycopy(other.heat, 0, heat, 0, MAX_RACKS);
            for (int feed = 0; feed < FEEDS; feed++) {
                System.arraycopy(other.worst[feed], 0, worst[feed], 0, MAX_RACKS);
            }
        }

        // ---- what is where

        void put(Machine machine, int cell) {
            fillCells(cell, machine.slots, machine.number);
            addLoads(rackOfCell(cell), machine, 1);
        }

        void clear(Machine machine) {
            fillCells(machine.cell, machine.slots, NONE);
            addLoads(rackOfCell(machine.cell), machine, -1);
        }

        private void fillCells(int lowest, int slots, int content) {
            for (int cell = lowest; cell < lowest + slots; cell++) {
                inCell[cell] = content;
            }
        }

        private void addLoads(int rack, Machine machine, int sign) {
            weight[rack] += sign * machine.weight;
            heat[rack] += sign * machine.power;
            for (int feed = 0; feed < FEEDS; feed++) {
                worst[feed][rack] += sign * machine.worstOn(feed);
            }
        }

        void changeCords(Machine machine, int cords) {
            int rack = rackOfCell(machine.cell);
            for (int feed = 0; feed < FEEDS; feed++) {
                worst[feed][rack] += machine.worstWith(feed, cords) - machine.worstOn(feed);
            }
            machine.cords = cords;
        }

        int firstFrom(int start) {
            for (int cell = start; cell < CELLS; cell++) {
                if (inCell[cell] != NONE) {
                    return inCell[cell];
                }
            }
            return NONE;
        }

        // ---- sums over racks

        int weightInRow(int row) {
            return sumInRow(row, weight);
        }

        int heatInRow(int row) {
            return sumInRow(row, heat);
        }

        private int sumInRow(int row, int[] loads) {
            int sum = 0;
            for (int rack = 0; rack < site.racks.size(); rack++) {
                if (site.racks.get(rack).row == row) {
                    sum += loads[rack];
                }
            }
            return sum;
        }

        int worstOnFeed(int feed) {
            int sum = 0;
            for (int rack = 0; rack < site.racks.size(); rack++) {
                sum += worst[feed][rack];
            }
            return sum;
        }

        // ---- what fits

        /** The first cell at which a machine fits, or NONE. */
        int firstFit(Machine machine) {
            for (int rack = 0; rack < site.racks.size(); rack++) {
                int cell = fitIn(rack, machine);
                if (cell != NONE) {
                    return cell;
                }
            }
            return NONE;
        }

        /** The lowest cell of a rack at which a machine fits, or NONE. */
        int fitIn(int rack, Machine machine) {
            return bears(rack, machine) ? lowestFree(rack, machine.slots) : NONE;
        }

        /** Puts machines of one kind into a rack as long as one fits, and tells how many. */
        int fillUp(int rack, Machine machine) {
            for (int count = 0; count < MAX_RACK_SLOTS; count++) {
                int cell = fitIn(rack, machine);
                if (cell == NONE) {
                    return count;
                }
                put(machine, cell);
            }
            return MAX_RACK_SLOTS;
        }

        private boolean bears(int rack, Machine machine) {
            Rack stand = site.racks.get(rack);
            int row = stand.row;
            return weight[rack] + machine.weight <= stand.weightLimit
                && weightInRow(row) + machine.weight <= site.rowWeight[row]
                && heatInRow(row) + machine.power <= site.rowHeat[row]
                && bearsMore(rack, 0, machine.worstOn(0))
                && bearsMore(rack, 1, machine.worstOn(1));
        }

        boolean bearsCords(Machine machine, int cords) {
            int rack = rackOfCell(machine.cell);
            return bearsMore(rack, 0, machine.worstWith(0, cords) - machine.worstOn(0))
                && bearsMore(rack, 1, machine.worstWith(1, cords) - machine.worstOn(1));
        }

        private boolean bearsMore(int rack, int feed, int more) {
            return worst[feed][rack] + more <= site.racks.get(rack).powerLimit
                && worstOnFeed(feed) + more <= site.feedPower[feed];
        }

        private int lowestFree(int rack, int slots) {
            int free = 0;
            for (int slot = 0; slot < site.racks.get(rack).slots; slot++) {
                free = inCell[cellAt(rack, slot)] == NONE ? free + 1 : 0;
                if (free == slots) {
                    return cellAt(rack, slot - slots + 1);
                }
            }
            return NONE;
        }

        int widestGap(int rack) {
            int widest = 0;
            int free = 0;
            for (int slot = 0; slot < site.racks.get(rack).slots; slot++) {
                free = inCell[cellAt(rack, slot)] == NONE ? free + 1 : 0;
                widest = Math.max(widest, free);
            }
            return widest;
        }

        // ---- counting without placing

        int countForRow(int row, Machine machine) {
            int count = 0;
            for (int rack = 0; rack < site.racks.size(); rack++) {
                if (site.racks.get(rack).row == row) {
                    count += countForRack(rack, machine);
                }
            }
            count = atMost(count, site.rowWeight[row] - weightInRow(row), machine.weight);
            return atMost(count, site.rowHeat[row] - heatInRow(row), machine.power);
        }

        private int countForRack(int rack, Machine machine) {
            Rack stand = site.racks.get(rack);
            int count = countBySlots(rack, machine.slots);
            count = atMost(count, stand.weightLimit - weight[rack], machine.weight);
            for (int feed = 0; feed < FEEDS; feed++) {
                count = atMost(count, stand.powerLimit - worst[feed][rack], machine.worstOn(feed));
            }
            return count;
        }

        private int countBySlots(int rack, int slots) {
            int count = 0;
            int free = 0;
            for (int slot = 0; slot < site.racks.get(rack).slots; slot++) {
                free = inCell[cellAt(rack, slot)] == NONE ? free + 1 : 0;
                if (free == slots) {
                    count++;
                    free = 0;
                }
            }
            return count;
        }
    }
}
