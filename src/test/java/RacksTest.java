/** Promises 1 to 7: a new object, racks, rows and feeds. */
public final class RacksTest {
    private static final Checks checks = new Checks("RacksTest");

    public static void main(String[] args) {
        newObject();
        addRack();
        addRackRefused();
        rackLimitsHold();
        setRowHolds();
        setRowRefused();
        setRowCountsDarkMachines();
        setFeed();
        setFeedRefused();
        switchFeed();
        hasFailed();
        racks();
        checks.end();
    }

    /** Promise 1. */
    private static void newObject() {
        RackPlanner p = new RackPlanner();
        checks.due("racks()", p.racks(), 0);
        checks.due("machines()", p.machines(), 0);
        checks.due("next(-1)", p.next(-1), -1);
        checks.due("hasFailed(0)", p.hasFailed(0), false);
        checks.due("hasFailed(1)", p.hasFailed(1), false);
        checks.due("pack()", p.pack(), 0);
        checks.due("racksFor", p.racksFor(1, 0, 0, 0), 0);
        checks.due("roomFor", p.roomFor(1, 0, 0, 0), 0);
        checks.due("roomByCounting", p.roomByCounting(1, 0, 0, 0), 0);
        checks.state("place", () -> p.place(1, 0, 0, 0));
        checks.index("machineAt(0, 0)", () -> p.machineAt(0, 0));
        checks.index("weightOf(0)", () -> p.weightOf(0));
        for (int row = 0; row < 4; row++) {
            checks.due("heatOf", p.heatOf(row), 0);
        }
        RackPlanner other = new RackPlanner();
        other.addRack(0, 1, 1, 1);
        other.switchFeed(0);
        checks.due("racks() of the first object", p.racks(), 0);
        checks.due("hasFailed(0) of the first object", p.hasFailed(0), false);
    }

    /** Promise 2: numbers, both ends of each range, eight racks at most. */
    private static void addRack() {
        RackPlanner p = new RackPlanner();
        checks.due("addRack(0, 1, 0, 0)", p.addRack(0, 1, 0, 0), 0);
        checks.due("addRack(3, 20, 10000, 10000)", p.addRack(3, 20, 10000, 10000), 1);
        checks.due("gap(0)", p.gap(0), 1);
        checks.due("gap(1)", p.gap(1), 20);
        for (int rack = 2; rack < 8; rack++) {
            checks.due("addRack", p.addRack(1, 2, 3, 4), rack);
        }
        String before = Checks.stateOf(p);
        checks.state("a ninth rack", () -> p.addRack(1, 2, 3, 4));
        checks.argument("a ninth rack in no row", () -> p.addRack(4, 2, 3, 4));
        checks.due("racks()", p.racks(), 8);
        checks.due("the state behind a ninth rack", Checks.stateOf(p), before);
    }

    private static void addRackRefused() {
        RackPlanner p = new RackPlanner();
        int[][] wrong = {{-1, 1, 1, 1}, {4, 1, 1, 1}, {0, 0, 1, 1}, {0, 21, 1, 1}, {0, -1, 1, 1}, {0, 1, -1, 1}, {0, 1, 10001, 1},
            {0, 1, 1, -1}, {0, 1, 1, 10001}, {Integer.MIN_VALUE, 1, 1, 1}, {0, Integer.MAX_VALUE, 1, 1}, {0, 1, Integer.MAX_VALUE, 1},
            {0, 1, 1, Integer.MIN_VALUE}};
        for (int[] w : wrong) {
            checks.argument("addRack(" + w[0] + ", " + w[1] + ", " + w[2] + ", " + w[3] + ")", () -> p.addRack(w[0], w[1], w[2], w[3]));
        }
        checks.due("racks()", p.racks(), 0);
        checks.due("the first number", p.addRack(0, 1, 1, 1), 0);
    }

    private static void rackLimitsHold() {
        RackPlanner p = new RackPlanner();
        p.addRack(2, 3, 50, 70);
        checks.due("racksFor of its weight", p.racksFor(1, 0, 50, 0), 1);
        checks.due("racksFor above its weight", p.racksFor(1, 0, 51, 0), 0);
        checks.due("racksFor of its power", p.racksFor(1, 70, 0, 1), 1);
        checks.due("racksFor above its power", p.racksFor(1, 71, 0, 1), 0);
        checks.due("racksFor of its slots", p.racksFor(3, 0, 0, 1), 1);
        checks.due("racksFor above its slots", p.racksFor(4, 0, 0, 1), 0);
        p.place(1, 7, 0, 0);
        checks.due("heatOf its row", p.heatOf(2), 7);
    }

    /** Promise 3: limits of heat and weight hold for the row, all racks of it together, and for no other row. */
    private static void setRowHolds() {
        RackPlanner p = new RackPlanner();
        p.addRack(1, 5, 10000, 10000);
        p.addRack(1, 5, 10000, 10000);
        p.addRack(2, 5, 10000, 10000);
        p.setRow(1, 100, 40);
        checks.due("racksFor at both limits", p.racksFor(1, 100, 40, 2), 7);
        checks.due("racksFor above the heat", p.racksFor(1, 101, 0, 2), 4);
        checks.due("racksFor above the weight", p.racksFor(1, 0, 41, 2), 4);
        p.place(5, 60, 30, 0);
        checks.due("racksFor what the heat leaves", p.racksFor(1, 40, 0, 1), 6);
        checks.due("racksFor more heat", p.racksFor(1, 41, 0, 1), 4);
        checks.due("racksFor what the weight leaves", p.racksFor(1, 0, 10, 1), 6);
        checks.due("racksFor more weight", p.racksFor(1, 0, 11, 1), 4);
        p.setRow(1, 10000, 10000);
        checks.due("racksFor, limits up again", p.racksFor(1, 2000, 1000, 1), 6);
        p.setRow(3, 0, 0);
        p.addRack(3, 1, 10000, 10000);
        checks.due("racksFor in a row of limits 0", p.racksFor(1, 0, 0, 1), 14);
        checks.due("racksFor in a row of limits 0, heat 1", p.racksFor(1, 1, 0, 1), 6);
        checks.due("racksFor in a row of limits 0, weight 1", p.racksFor(1, 0, 1, 1), 6);
    }

    private static void setRowRefused() {
        RackPlanner p = new RackPlanner();
        p.addRack(0, 5, 10000, 10000);
        p.addRack(0, 5, 10000, 10000);
        p.addRack(3, 5, 10000, 10000);
        p.place(3, 10, 5, 0);
        p.place(3, 20, 6, 1);
        p.setRow(0, 31, 12);
        String before = Checks.stateOf(p);
        checks.state("heat below the machines", () -> p.setRow(0, 29, 12));
        checks.state("weight below the machines", () -> p.setRow(0, 31, 10));
        checks.state("both below", () -> p.setRow(0, 0, 0));
        checks.argument("row -1", () -> p.setRow(-1, 0, 0));
        checks.argument("row 4", () -> p.setRow(4, 0, 0));
        checks.argument("heat -1", () -> p.setRow(0, -1, 0));
        checks.argument("heat 10001", () -> p.setRow(0, 10001, 0));
        checks.argument("weight -1", () -> p.setRow(0, 0, -1));
        checks.argument("weight 10001", () -> p.setRow(0, 0, 10001));
        checks.due("the state behind what was refused", Checks.stateOf(p), before);
        p.setRow(0, 30, 11);
        p.setRow(3, 0, 0);
        checks.due("racksFor, as nothing is left", p.racksFor(1, 1, 0, 0), 0);
    }

    private static void setRowCountsDarkMachines() {
        RackPlanner p = new RackPlanner();
        p.addRack(0, 3, 10000, 10000);
        p.place(1, 10, 0, 0);
        p.switchFeed(0);
        checks.due("heatOf(0)", p.heatOf(0), 0);
        checks.state("a dark machine's heat", () -> p.setRow(0, 9, 0));
        p.setRow(0, 10, 0);
        checks.due("racksFor behind a dark machine", p.racksFor(1, 1, 0, 1), 0);
    }

    /** Promise 4. */
    private static void setFeed() {
        RackPlanner p = new RackPlanner();
        p.addRack(0, 5, 10000, 10000);
        p.addRack(1, 5, 10000, 10000);
        checks.due("setFeed(0, 100)", p.setFeed(0, 100), 20000);
        checks.due("setFeed(1, 50)", p.setFeed(1, 50), 20000);
        checks.due("setFeed(1, 60)", p.setFeed(1, 60), 50);
        p.place(5, 70, 0, 0);
        checks.due("what feed 0 leaves in another rack", p.racksFor(1, 30, 0, 0), 2);
        checks.due("more than feed 0 leaves", p.racksFor(1, 31, 0, 0), 0);
        checks.due("what feed 1 leaves", p.racksFor(1, 60, 0, 1), 2);
        checks.due("more than feed 1 leaves", p.racksFor(1, 61, 0, 1), 0);
        checks.due("two cords at the limit", p.racksFor(1, 30, 0, 2), 2);
        checks.due("two cords above feed 0", p.racksFor(1, 31, 0, 2), 0);
        checks.due("setFeed(0, 20000)", p.setFeed(0, 20000), 100);
        checks.due("two cords above feed 1", p.racksFor(1, 61, 0, 2), 0);
        checks.due("setFeed(1, 0)", p.setFeed(1, 0), 60);
        checks.due("nothing from a feed of 0", p.racksFor(1, 0, 0, 2), 2);
        checks.due("1 from a feed of 0", p.racksFor(1, 1, 0, 2), 0);
    }

    private static void setFeedRefused() {
        RackPlanner p = new RackPlanner();
        p.addRack(0, 3, 10000, 10000);
        p.addRack(1, 9, 10000, 10000);
        p.place(3, 40, 0, 2);
        p.place(1, 5, 0, 0);
        p.place(1, 6, 0, 1);
        p.setFeed(0, 50);
        p.switchFeed(1);
        String before = Checks.stateOf(p);
        checks.state("feed 0 below the worst", () -> p.setFeed(0, 44));
        checks.state("feed 1 below the worst, though it has failed", () -> p.setFeed(1, 45));
        checks.argument("feed -1", () -> p.setFeed(-1, 0));
        checks.argument("feed 2", () -> p.setFeed(2, 0));
        checks.argument("power -1", () -> p.setFeed(0, -1));
        checks.argument("power 20001", () -> p.setFeed(0, 20001));
        checks.due("the state behind what was refused", Checks.stateOf(p), before);
        checks.due("setFeed(0, 45)", p.setFeed(0, 45), 50);
        checks.due("setFeed(1, 46)", p.setFeed(1, 46), 20000);
    }

    /** Promise 5. */
    private static void switchFeed() {
        RackPlanner p = new RackPlanner();
        p.addRack(0, 10, 10000, 10000);
        for (int cords : new int[] {0, 0, 0, 1, 1, 2}) {
            p.place(1, 10, 1, cords);
        }
        checks.due("feed 0 fails", p.switchFeed(0), 3);
        checks.due("feed 1 fails too", p.switchFeed(1), 6);
        checks.due("feed 0 comes back", p.switchFeed(0), 2);
        p.takeOut(3);
        checks.argument("switchFeed(-1)", () -> p.switchFeed(-1));
        checks.argument("switchFeed(2)", () -> p.switchFeed(2));
        checks.due("hasFailed(0)", p.hasFailed(0), false);
        checks.due("hasFailed(1)", p.hasFailed(1), true);
        checks.due("feed 0 fails again", p.switchFeed(0), 5);
        checks.due("feed 1 comes back", p.switchFeed(1), 3);
        checks.due("feed 0 comes back again", p.switchFeed(0), 0);
    }

    /** Promise 6. */
    private static void hasFailed() {
        RackPlanner p = new RackPlanner();
        p.switchFeed(1);
        checks.due("hasFailed(0)", p.hasFailed(0), false);
        checks.due("hasFailed(1)", p.hasFailed(1), true);
        checks.argument("hasFailed(-1)", () -> p.hasFailed(-1));
        checks.argument("hasFailed(2)", () -> p.hasFailed(2));
        p.switchFeed(1);
        checks.due("hasFailed(1) as it came back", p.hasFailed(1), false);
    }

    /** Promise 7. */
    private static void racks() {
        RackPlanner p = new RackPlanner();
        for (int rack = 0; rack < 8; rack++) {
            checks.due("racks()", p.racks(), rack);
            p.addRack(rack % 4, 1, 0, 0);
        }
        checks.due("racks()", p.racks(), 8);
    }
}
