/** Promises 23 to 25: what fits. */
public final class RoomTest {
    private static final Checks checks = new Checks("RoomTest");

    public static void main(String[] args) {
        racksFor();
        roomBySlots();
        roomByRackLimits();
        roomByRowLimits();
        roomByFeedLimits();
        roomOfMany();
        nothingChanges();
        refused();
        checks.end();
    }

    /** Promise 23: each rack for itself, told by its bit. */
    private static void racksFor() {
        RackPlanner p = new RackPlanner();
        for (int rack = 0; rack < 8; rack++) {
            p.addRack(rack / 2, 1 + rack, 10 * rack, 20 * rack);
        }
        checks.due("racksFor 1 slot", p.racksFor(1, 0, 0, 0), 255);
        checks.due("racksFor 6 slots", p.racksFor(6, 0, 0, 0), 224);
        checks.due("racksFor weight 30", p.racksFor(1, 0, 30, 0), 248);
        checks.due("racksFor weight 31", p.racksFor(1, 0, 31, 0), 240);
        checks.due("racksFor power 100", p.racksFor(1, 100, 0, 0), 224);
        checks.due("racksFor power 101", p.racksFor(1, 101, 0, 2), 192);
        p.setRow(3, 90, 10000);
        p.setRow(2, 10000, 20);
        checks.due("racksFor heat 91", p.racksFor(1, 91, 0, 1), 32);
        checks.due("racksFor weight 21 on a floor of 20", p.racksFor(1, 0, 21, 0), 200);
        p.place(1, 0, 0, 0);
        checks.due("racksFor as rack 0 is full", p.racksFor(1, 0, 0, 0), 254);
        p.setFeed(1, 30);
        checks.due("racksFor feed 1 at its limit", p.racksFor(1, 30, 0, 1), 252);
        checks.due("racksFor above feed 1", p.racksFor(1, 31, 0, 1), 0);
        checks.due("racksFor above feed 1 with two cords", p.racksFor(1, 31, 0, 2), 0);
        checks.due("racksFor the other feed", p.racksFor(1, 31, 0, 0), 252);
    }

    /** Promises 24 and 25: both answers are the same. */
    private static void room(RackPlanner p, int slots, int power, int weight, int cords, int want) {
        String kind = "(" + slots + ", " + power + ", " + weight + ", " + cords + ")";
        checks.due("roomFor" + kind, p.roomFor(slots, power, weight, cords), want);
        checks.due("roomByCounting" + kind, p.roomByCounting(slots, power, weight, cords), want);
    }

    private static void roomBySlots() {
        RackPlanner p = new RackPlanner();
        room(p, 1, 0, 0, 0, 0);
        p.addRack(0, 10, 0, 0);
        p.addRack(1, 5, 0, 0);
        room(p, 1, 0, 0, 0, 15);
        room(p, 2, 0, 0, 1, 7);
        room(p, 3, 0, 0, 2, 4);
        room(p, 5, 0, 0, 0, 3);
        room(p, 6, 0, 0, 0, 1);
        p.place(4, 0, 0, 0);
        p.place(1, 0, 0, 0);
        p.takeOut(0);
        room(p, 3, 0, 0, 0, 3);
        room(p, 4, 0, 0, 0, 3);
        room(p, 5, 0, 0, 0, 2);
        room(p, 6, 0, 0, 0, 0);
        room(p, 1, 0, 1, 0, 0);
        room(p, 1, 1, 0, 0, 0);
    }

    private static void roomByRackLimits() {
        RackPlanner p = new RackPlanner();
        p.addRack(0, 20, 100, 50);
        p.addRack(1, 20, 30, 500);
        room(p, 1, 0, 10, 0, 13);
        room(p, 1, 0, 100, 0, 1);
        room(p, 1, 0, 101, 0, 0);
        room(p, 1, 20, 0, 0, 22);
        room(p, 1, 20, 0, 2, 22);
        room(p, 1, 20, 10, 1, 5);
        p.place(1, 15, 35, 0);
        room(p, 1, 10, 0, 0, 23);
        room(p, 1, 10, 0, 1, 25);
        room(p, 1, 10, 0, 2, 23);
        room(p, 1, 0, 10, 0, 9);
    }

    private static void roomByRowLimits() {
        RackPlanner p = new RackPlanner();
        p.addRack(2, 10, 10000, 10000);
        p.addRack(2, 10, 10000, 10000);
        p.addRack(3, 10, 10000, 10000);
        p.setRow(2, 100, 1000);
        p.setRow(3, 1000, 55);
        room(p, 1, 10, 0, 0, 20);
        room(p, 1, 7, 0, 2, 24);
        room(p, 1, 0, 10, 1, 25);
        room(p, 1, 10, 10, 1, 15);
        p.place(1, 31, 0, 0);
        p.switchFeed(0);
        room(p, 1, 10, 0, 1, 16);
        room(p, 1, 101, 0, 1, 9);
        room(p, 1, 0, 0, 1, 29);
        RackPlanner q = new RackPlanner();
        q.addRack(1, 10, 10000, 10000);
        q.addRack(1, 10, 10000, 10000);
        q.setRow(1, 10000, 57);
        q.place(6, 0, 20, 0);
        q.place(6, 0, 7, 0);
        room(q, 1, 0, 10, 0, 3);
        room(q, 1, 0, 31, 0, 0);
    }

    private static void roomByFeedLimits() {
        RackPlanner p = new RackPlanner();
        p.addRack(0, 10, 10000, 10000);
        p.addRack(1, 10, 10000, 10000);
        p.setFeed(0, 100);
        p.setFeed(1, 65);
        room(p, 1, 10, 0, 0, 10);
        room(p, 1, 10, 0, 1, 6);
        room(p, 1, 10, 0, 2, 6);
        p.place(1, 45, 0, 0);
        p.switchFeed(0);
        room(p, 1, 10, 0, 0, 5);
        room(p, 1, 10, 0, 1, 6);
        room(p, 1, 10, 0, 2, 5);
        room(p, 1, 0, 1, 2, 19);
        p.setFeed(0, 45);
        room(p, 1, 1, 0, 0, 0);
        room(p, 1, 1, 0, 1, 19);
        room(p, 1, 0, 0, 0, 19);
    }

    private static void roomOfMany() {
        RackPlanner p = new RackPlanner();
        for (int rack = 0; rack < 8; rack++) {
            p.addRack(rack % 4, 20, 10000, 10000);
        }
        room(p, 1, 0, 0, 2, 160);
        room(p, 6, 0, 0, 2, 24);
        room(p, 1, 2000, 1000, 2, 10);
        room(p, 1, 2000, 1000, 0, 10);
        room(p, 1, 200, 0, 0, 100);
        room(p, 1, 0, 1000, 0, 40);
    }

    private static void nothingChanges() {
        RackPlanner p = new RackPlanner();
        p.addRack(0, 6, 100, 100);
        p.addRack(1, 4, 100, 100);
        p.place(2, 10, 10, 0);
        p.place(1, 10, 10, 2);
        p.takeOut(0);
        String before = Checks.stateOf(p);
        p.racksFor(2, 10, 10, 2);
        p.roomFor(2, 10, 10, 2);
        p.roomByCounting(2, 10, 10, 2);
        checks.due("the state behind them", Checks.stateOf(p), before);
        checks.due("the next number", p.place(1, 1, 1, 1), 2);
        checks.due("its slot", p.slotOf(2), 0);
        checks.due("pack()", p.pack(), 2);
    }

    private static void refused() {
        RackPlanner p = new RackPlanner();
        p.addRack(0, 6, 100, 100);
        int[][] wrong = {{0, 1, 1, 1}, {7, 1, 1, 1}, {1, -1, 1, 1}, {1, 2001, 1, 1}, {1, 1, -1, 1}, {1, 1, 1001, 1}, {1, 1, 1, -1},
            {1, 1, 1, 3}, {Integer.MAX_VALUE, 1, 1, 1}, {1, Integer.MIN_VALUE, 1, 1}, {1, 1, 1, Integer.MAX_VALUE}};
        for (int[] w : wrong) {
            checks.argument("racksFor", () -> p.racksFor(w[0], w[1], w[2], w[3]));
            checks.argument("roomFor", () -> p.roomFor(w[0], w[1], w[2], w[3]));
            checks.argument("roomByCounting", () -> p.roomByCounting(w[0], w[1], w[2], w[3]));
        }
        room(p, 6, 2000, 1000, 2, 0);
        room(p, 6, 0, 0, 2, 1);
    }
}
