import java.util.Arrays;
import java.util.Random;

/** Runs of at most 512 calls drawn from a fixed seed; each answer is compared with the model's. */
public final class RandomRunsTest {
    private static final int RUNS = 1000;
    private static final int CALLS = 512;
    private static final String[] NAMES = {"addRack", "setRow", "setFeed", "switchFeed", "hasFailed", "racks", "place", "takeOut",
        "cord", "pack", "machines", "rackOf", "slotOf", "isDark", "machineAt", "next", "powerOf", "worstOf", "weightOf", "heatOf",
        "gap", "racksFor", "roomFor", "roomByCounting"};
    private static final int[] WEIGHTS = {4, 3, 3, 4, 1, 1, 30, 12, 8, 4, 2, 3, 3, 3, 4, 4, 4, 3, 3, 3, 3, 4, 4, 4};
    /** How often each call answered, and how often it threw: runs that never reach one of both test little. */
    private static final int[][] seen = new int[NAMES.length][2];
    private static final Checks checks = new Checks("RandomRunsTest");

    public static void main(String[] args) {
        for (int run = 0; run < RUNS && checks.wrong() == 0; run++) {
            oneRun(run);
        }
        for (int call = 0; call < NAMES.length; call++) {
            if (checks.wrong() == 0 && seen[call][0] < 500) {
                checks.report(NAMES[call] + " answered only " + seen[call][0] + " times");
            }
            boolean neverThrows = Arrays.asList("racks", "pack", "machines").contains(NAMES[call]);
            if (checks.wrong() == 0 && !neverThrows && seen[call][1] < 50) {
                checks.report(NAMES[call] + " threw only " + seen[call][1] + " times");
            }
        }
        checks.end();
    }

    private static void oneRun(int run) {
        Random random = new Random(run);
        Draw draw = new Draw(random);
        RackPlanner planner = new RackPlanner();
        Model model = new Model();
        for (int number = 0; number < CALLS; number++) {
            int call = number < 4 ? 0 : drawCall(random);
            int[] a = draw.arguments(NAMES[call], (int) model.racks());
            long got = answer(planner, NAMES[call], a);
            long want = due(model, NAMES[call], a);
            draw.madeIfPlaced(NAMES[call], want);
            seen[call][want <= Model.INDEX ? 1 : 0]++;
            if (got != want) {
                checks.report("run " + run + ", call " + number + ": " + NAMES[call] + Arrays.toString(a) + " answered " + got + ", due is " + want);
                return;
            }
        }
    }

    private static int drawCall(Random random) {
        int drawn = random.nextInt(Arrays.stream(WEIGHTS).sum());
        int call = 0;
        while (drawn >= WEIGHTS[call]) {
            drawn -= WEIGHTS[call++];
        }
        return call;
    }

    /** Draws arguments; each run has sizes of its own, so that now slots, now limits run out first. */
    private static final class Draw {
        private final Random random;
        private final int rackLimit;
        private final int rowLimit;
        private final int feedLimit;
        private final int power;
        private final int weight;
        private final int slots;
        private int made;

        Draw(Random random) {
            this.random = random;
            rackLimit = pick(20, 300, 3000, 10000);
            rowLimit = pick(50, 500, 5000, 10000);
            feedLimit = pick(100, 1000, 8000, 20000);
            power = pick(0, 3, 40, 500, 2000);
            weight = pick(0, 3, 40, 300, 1000);
            slots = pick(1, 2, 3, 6);
        }

        private int pick(int... of) {
            return of[random.nextInt(of.length)];
        }

        private int upTo(int most) {
            return random.nextInt(most + 1);
        }

        /** Mostly within the range, now and then just outside, seldom far. */
        private int ranged(int least, int most, int drawn) {
            int dice = random.nextInt(60);
            if (dice == 0) {
                return pick(least - 1, most + 1, Integer.MIN_VALUE, Integer.MAX_VALUE);
            }
            return dice == 1 ? pick(least, most) : drawn;
        }

        private int machine() {
            int dice = random.nextInt(20);
            if (dice == 0 || made == 0) {
                return pick(-1, -2, made, made + 1, Integer.MAX_VALUE, Integer.MIN_VALUE);
            }
            return dice < 10 ? Math.max(0, made - 1 - upTo(20)) : upTo(made - 1);
        }

        private int[] kind() {
            return new int[] {ranged(1, 6, 1 + upTo(slots - 1)), ranged(0, 2000, upTo(power)), ranged(0, 1000, upTo(weight)),
                ranged(0, 2, upTo(2))};
        }

        private int feed() {
            return ranged(0, 1, upTo(1));
        }

        private int row() {
            return ranged(0, 3, upTo(3));
        }

        private int rack(int racks) {
            return ranged(0, racks - 1, upTo(Math.max(0, racks - 1)));
        }

        void madeIfPlaced(String call, long answer) {
            if (call.equals("place") && answer >= 0) {
                made++;
            }
        }

        int[] arguments(String call, int racks) {
            switch (call) {
                case "addRack":
                    return new int[] {row(), ranged(1, 20, 1 + upTo(19)), ranged(0, 10000, upTo(rackLimit)), ranged(0, 10000, upTo(rackLimit))};
                case "setRow":
                    return new int[] {row(), ranged(0, 10000, upTo(rowLimit)), ranged(0, 10000, upTo(rowLimit))};
                case "setFeed":
                    return new int[] {feed(), ranged(0, 20000, upTo(feedLimit))};
                case "switchFeed":
                case "hasFailed":
                    return new int[] {feed()};
                case "place":
                case "racksFor":
                case "roomFor":
                case "roomByCounting":
                    return kind();
                case "takeOut":
                case "rackOf":
                case "slotOf":
                case "isDark":
                    return new int[] {machine()};
                case "next":
                    return new int[] {random.nextInt(5) == 0 ? -1 : machine()};
                case "cord":
                    return new int[] {machine(), ranged(0, 2, upTo(2))};
                case "machineAt":
                    return new int[] {rack(racks), ranged(0, 19, upTo(19))};
                case "powerOf":
                case "worstOf":
                    return new int[] {rack(racks), feed()};
                case "weightOf":
                case "gap":
                    return new int[] {rack(racks)};
                case "heatOf":
                    return new int[] {row()};
                default:
                    return new int[0];
            }
        }
    }

    private static long answer(RackPlanner p, String call, int[] a) {
        try {
            return answered(p, call, a);
        } catch (RuntimeException thrown) {
            if (!Checks.thrownByPlanner(thrown)) {
                throw thrown;
            }
            if (thrown.getClass() == IllegalArgumentException.class) {
                return Model.ARGUMENT;
            }
            if (thrown.getClass() == IllegalStateException.class) {
                return Model.STATE;
            }
            if (thrown.getClass() == IndexOutOfBoundsException.class) {
                return Model.INDEX;
            }
            throw thrown;
        }
    }

    private static long answered(RackPlanner p, String call, int[] a) {
        switch (call) {
            case "addRack": return p.addRack(a[0], a[1], a[2], a[3]);
            case "setRow": p.setRow(a[0], a[1], a[2]); return 0;
            case "setFeed": return p.setFeed(a[0], a[1]);
            case "switchFeed": return p.switchFeed(a[0]);
            case "hasFailed": return p.hasFailed(a[0]) ? 1 : 0;
            case "racks": return p.racks();
            case "place": return p.place(a[0], a[1], a[2], a[3]);
            case "takeOut": return p.takeOut(a[0]);
            case "cord": return p.cord(a[0], a[1]);
            case "pack": return p.pack();
            case "machines": return p.machines();
            case "rackOf": return p.rackOf(a[0]);
            case "slotOf": return p.slotOf(a[0]);
            case "isDark": return p.isDark(a[0]) ? 1 : 0;
            case "machineAt": return p.machineAt(a[0], a[1]);
            case "next": return p.next(a[0]);
            case "powerOf": return p.powerOf(a[0], a[1]);
            case "worstOf": return p.worstOf(a[0], a[1]);
            case "weightOf": return p.weightOf(a[0]);
            case "heatOf": return p.heatOf(a[0]);
            case "gap": return p.gap(a[0]);
            case "racksFor": return p.racksFor(a[0], a[1], a[2], a[3]);
            case "roomFor": return p.roomFor(a[0], a[1], a[2], a[3]);
            default: return p.roomByCounting(a[0], a[1], a[2], a[3]);
        }
    }

    private static long due(Model m, String call, int[] a) {
        switch (call) {
            case "addRack": return m.addRack(a[0], a[1], a[2], a[3]);
            case "setRow": return m.setRow(a[0], a[1], a[2]);
            case "setFeed": return m.setFeed(a[0], a[1]);
            case "switchFeed": return m.switchFeed(a[0]);
            case "hasFailed": return m.hasFailed(a[0]);
            case "racks": return m.racks();
            case "place": return m.place(a[0], a[1], a[2], a[3]);
            case "takeOut": return m.takeOut(a[0]);
            case "cord": return m.cord(a[0], a[1]);
            case "pack": return m.pack();
            case "machines": return m.machines();
            case "rackOf": return m.rackOf(a[0]);
            case "slotOf": return m.slotOf(a[0]);
            case "isDark": return m.isDark(a[0]);
            case "machineAt": return m.machineAt(a[0], a[1]);
            case "next": return m.next(a[0]);
            case "powerOf": return m.powerOf(a[0], a[1]);
            case "worstOf": return m.worstOf(a[0], a[1]);
            case "weightOf": return m.weightOf(a[0]);
            case "heatOf": return m.heatOf(a[0]);
            case "gap": return m.gap(a[0]);
            case "racksFor": return m.racksFor(a[0], a[1], a[2], a[3]);
            default: return m.roomFor(a[0], a[1], a[2], a[3]);
        }
    }
}
