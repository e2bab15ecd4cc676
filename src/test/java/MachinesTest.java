/** Promises 8 to 17: machines and the walk. */
public final class MachinesTest {
    private static final Checks checks = new Checks("MachinesTest");

    public static void main(String[] args) {
        placeFirstFit();
        placeWithinLimits();
        placeRefused();
        placeSixty();
        takeOut();
        cord();
        cordRefused();
        packInOrder();
        packRefused();
        packWithinLimits();
        packAgain();
        machines();
        whereMachinesAre();
        isDark();
        machineAt();
        next();
        checks.end();
    }

    private static RackPlanner twoRacks() {
        RackPlanner p = new RackPlanner();
        p.addRack(0, 6, 100, 100);
        p.addRack(1, 4, 100, 100);
        return p;
    }

    /** Promise 8: the lowest slot of the first rack, holes too; numbers rise and come once. */
    private static void placeFirstFit() {
        RackPlanner p = twoRacks();
        checks.due("place", p.place(2, 1, 1, 0), 0);
        checks.due("place", p.place(1, 1, 1, 0), 1);
        checks.due("place", p.place(4, 1, 1, 0), 2);
        checks.due("place", p.place(3, 1, 1, 0), 3);
        checkAt(p, 0, 0, 0);
        checkAt(p, 1, 0, 2);
        checkAt(p, 2, 1, 0);
        checkAt(p, 3, 0, 3);
        p.takeOut(0);
        checks.due("place into the hole", p.place(1, 1, 1, 0), 4);
        checks.due("place above it", p.place(1, 1, 1, 0), 5);
        checkAt(p, 4, 0, 0);
        checkAt(p, 5, 0, 1);
        p.takeOut(5);
        checks.due("a number comes once", p.place(1, 1, 1, 0), 6);
        checkAt(p, 6, 0, 1);
        p.takeOut(1);
        p.takeOut(6);
        checks.state("three slots into a hole of two", () -> p.place(3, 1, 1, 0));
        checks.due("two into it", p.place(2, 1, 1, 0), 7);
        checkAt(p, 7, 0, 1);
        p.addRack(1, 6, 0, 0);
        checks.due("both ends of the ranges", p.place(6, 0, 0, 2), 8);
        checkAt(p, 8, 2, 0);
    }

    private static void checkAt(RackPlanner p, int machine, int rack, int slot) {
        checks.due("rackOf(" + machine + ")", p.rackOf(machine), rack);
        checks.due("slotOf(" + machine + ")", p.slotOf(machine), slot);
    }

    private static void placeWithinLimits() {
        RackPlanner p = twoRacks();
        p.place(1, 60, 60, 0);
        p.place(1, 40, 41, 0);
        checkAt(p, 1, 1, 0);
        p.place(1, 40, 40, 0);
        checkAt(p, 2, 0, 1);
        p.place(1, 100, 0, 1);
        checkAt(p, 3, 0, 2);
        p.place(1, 1, 0, 1);
        checkAt(p, 4, 1, 1);
        p.place(1, 0, 0, 2);
        checkAt(p, 5, 0, 3);
        p.switchFeed(0);
        checks.state("a failed feed keeps its limits", () -> p.place(1, 61, 0, 0));
        checks.state("two cords count in full on both feeds", () -> p.place(1, 61, 0, 2));
        p.place(1, 60, 0, 2);
        checkAt(p, 6, 1, 2);
        RackPlanner q = new RackPlanner();
        q.addRack(0, 20, 10000, 10000);
        for (int i = 0; i < 5; i++) {
            q.place(1, 2000, 1000, 2);
        }
        checks.state("above 10000 of a rack", () -> q.place(1, 1, 0, 1));
        checks.due("the weight is not at its end", q.place(1, 0, 1000, 1), 5);
    }

    private static void placeRefused() {
        RackPlanner p = twoRacks();
        p.place(4, 10, 10, 0);
        p.place(4, 10, 10, 1);
        String before = Checks.stateOf(p);
        int[][] wrong = {{0, 1, 1, 1}, {7, 1, 1, 1}, {1, -1, 1, 1}, {1, 2001, 1, 1}, {1, 1, -1, 1}, {1, 1, 1001, 1}, {1, 1, 1, -1},
            {1, 1, 1, 3}, {Integer.MIN_VALUE, 1, 1, 1}, {1, Integer.MAX_VALUE, 1, 1}, {1, 1, Integer.MAX_VALUE, 1}};
        for (int[] w : wrong) {
            checks.argument("place of what is out of range", () -> p.place(w[0], w[1], w[2], w[3]));
        }
        checks.state("no slots", () -> p.place(3, 0, 0, 0));
        checks.state("no weight", () -> p.place(1, 0, 101, 0));
        checks.state("no power", () -> p.place(1, 101, 0, 0));
        checks.due("the state behind what was refused", Checks.stateOf(p), before);
        checks.due("the number behind what was refused", p.place(1, 0, 0, 0), 2);
        RackPlanner none = new RackPlanner();
        checks.argument("out of range without a rack", () -> none.place(1, 1, 1, 3));
    }

    private static void placeSixty() {
        RackPlanner p = new RackPlanner();
        for (int rack = 0; rack < 4; rack++) {
            p.addRack(0, 20, 0, 0);
        }
        for (int i = 0; i < 60; i++) {
            checks.due("place", p.place(1, 0, 0, i % 3), i);
        }
        checks.state("a machine 61", () -> p.place(1, 0, 0, 0));
        checks.argument("a machine 61 that is out of range", () -> p.place(0, 0, 0, 0));
        checks.due("machines()", p.machines(), 60);
        checks.due("racksFor, whatever the number", p.racksFor(1, 0, 0, 0), 8);
        checks.due("roomFor, whatever the number", p.roomFor(1, 0, 0, 0), 20);
        checks.due("roomByCounting, whatever the number", p.roomByCounting(1, 0, 0, 0), 20);
        p.takeOut(7);
        checks.due("place as one is out", p.place(1, 0, 0, 0), 60);
        checkAt(p, 60, 0, 7);
        checks.state("a machine 61 again", () -> p.place(1, 0, 0, 0));
        checks.due("pack() of sixty", p.pack(), 53);
        checkAt(p, 60, 2, 19);
        checkAt(p, 8, 0, 7);
    }

    /** Promise 9. */
    private static void takeOut() {
        RackPlanner p = twoRacks();
        p.place(6, 10, 20, 0);
        p.place(2, 30, 40, 2);
        p.place(1, 5, 6, 1);
        checks.due("takeOut(1)", p.takeOut(1), 1);
        checks.due("machines()", p.machines(), 2);
        checks.due("weightOf(1)", p.weightOf(1), 6);
        checks.due("worstOf(1, 0)", p.worstOf(1, 0), 0);
        checks.due("worstOf(1, 1)", p.worstOf(1, 1), 5);
        checks.due("heatOf(1)", p.heatOf(1), 5);
        checks.due("machineAt(1, 0)", p.machineAt(1, 0), -1);
        checks.due("machineAt(1, 1)", p.machineAt(1, 1), -1);
        checks.due("machineAt(1, 2)", p.machineAt(1, 2), 2);
        String before = Checks.stateOf(p);
        checks.index("what was taken out", () -> p.takeOut(1));
        checks.index("-1", () -> p.takeOut(-1));
        checks.index("what was never placed", () -> p.takeOut(3));
        checks.index("the greatest number", () -> p.takeOut(Integer.MAX_VALUE));
        checks.index("the least number", () -> p.takeOut(Integer.MIN_VALUE));
        checks.due("the state behind what was refused", Checks.stateOf(p), before);
        checks.due("takeOut(0)", p.takeOut(0), 0);
        checks.due("takeOut(2)", p.takeOut(2), 1);
        checks.due("roomFor behind all", p.roomFor(1, 0, 20, 0), 9);
    }

    /** Promise 10. */
    private static void cord() {
        RackPlanner p = twoRacks();
        p.place(2, 41, 1, 0);
        checks.due("cord(0, 2)", p.cord(0, 2), 0);
        checks.due("worstOf(0, 0)", p.worstOf(0, 0), 41);
        checks.due("worstOf(0, 1)", p.worstOf(0, 1), 41);
        checks.due("powerOf(0, 0)", p.powerOf(0, 0), 21);
        checks.due("powerOf(0, 1)", p.powerOf(0, 1), 20);
        checks.due("cord(0, 1)", p.cord(0, 1), 2);
        checks.due("worstOf(0, 0)", p.worstOf(0, 0), 0);
        checks.due("worstOf(0, 1)", p.worstOf(0, 1), 41);
        p.switchFeed(1);
        checks.due("isDark(0)", p.isDark(0), true);
        checks.due("the same cords", p.cord(0, 1), 1);
        checks.due("cord(0, 0)", p.cord(0, 0), 1);
        checks.due("isDark(0) with another cord", p.isDark(0), false);
        checkAt(p, 0, 0, 0);
        checks.due("weightOf(0)", p.weightOf(0), 1);
        p.place(4, 59, 1, 1);
        checks.due("up to the limit of the rack", p.cord(1, 2), 1);
        checks.due("the same at the limit", p.cord(1, 2), 2);
    }

    private static void cordRefused() {
        RackPlanner p = twoRacks();
        p.place(4, 60, 1, 0);
        p.place(2, 41, 1, 1);
        p.place(1, 30, 1, 1);
        checkAt(p, 2, 1, 0);
        String before = Checks.stateOf(p);
        checks.state("feed 0 of the rack", () -> p.cord(1, 0));
        checks.state("both feeds, as one is above", () -> p.cord(1, 2));
        checks.state("feed 1 of the rack", () -> p.cord(0, 1));
        checks.state("both feeds, as the other is above", () -> p.cord(0, 2));
        checks.index("-1", () -> p.cord(-1, 0));
        checks.index("what was never placed, cords out of range", () -> p.cord(3, 3));
        checks.argument("cords -1", () -> p.cord(0, -1));
        checks.argument("cords 3", () -> p.cord(1, 3));
        checks.due("the state behind what was refused", Checks.stateOf(p), before);
        p.setFeed(0, 89);
        checks.state("feed 0 of all racks", () -> p.cord(2, 0));
        checks.state("both feeds, as all racks are above", () -> p.cord(2, 2));
        p.setFeed(0, 90);
        checks.due("up to feed 0 of all racks", p.cord(2, 2), 1);
        p.setFeed(1, 71);
        checks.due("off feed 1", p.cord(2, 0), 2);
        p.setFeed(1, 70);
        checks.state("feed 1 of all racks", () -> p.cord(2, 1));
        p.takeOut(2);
        checks.index("what was taken out", () -> p.cord(2, 0));
    }

    /** Promise 11: by slots, then power, then number; moved machines are counted, by rack or slot. */
    private static void packInOrder() {
        RackPlanner p = new RackPlanner();
        p.addRack(0, 6, 1000, 1000);
        p.addRack(1, 6, 1000, 1000);
        p.place(1, 5, 1, 0);
        p.place(1, 9, 2, 0);
        p.place(2, 7, 3, 1);
        p.place(1, 9, 4, 2);
        p.place(3, 0, 5, 2);
        p.place(2, 7, 6, 0);
        checks.due("pack()", p.pack(), 6);
        checkAt(p, 4, 0, 0);
        checkAt(p, 2, 0, 3);
        checkAt(p, 5, 1, 0);
        checkAt(p, 1, 0, 5);
        checkAt(p, 3, 1, 2);
        checkAt(p, 0, 1, 3);
        checks.due("machineAt(0, 4)", p.machineAt(0, 4), 2);
        checks.due("machineAt(1, 4)", p.machineAt(1, 4), -1);
        checks.due("weightOf(0)", p.weightOf(0), 10);
        checks.due("worstOf(1, 0)", p.worstOf(1, 0), 21);
        checks.due("heatOf(0)", p.heatOf(0), 16);
        checks.due("pack() again", p.pack(), 0);
        p.takeOut(3);
        checks.due("pack() of one that moves", p.pack(), 1);
        checkAt(p, 0, 1, 2);
        checks.due("the next number", p.place(1, 0, 0, 0), 6);
        checkAt(p, 6, 1, 3);
        p.takeOut(4);
        p.switchFeed(0);
        checks.due("pack() of five that move, with a failed feed", p.pack(), 5);
        checkAt(p, 2, 0, 0);
        checkAt(p, 5, 0, 2);
        checkAt(p, 1, 0, 4);
        checkAt(p, 0, 0, 5);
        checkAt(p, 6, 1, 0);
    }

    private static void packRefused() {
        RackPlanner p = new RackPlanner();
        p.addRack(0, 5, 10, 100);
        p.addRack(1, 4, 0, 100);
        p.place(1, 3, 5, 0);
        p.place(1, 4, 5, 1);
        p.place(4, 0, 0, 2);
        checkAt(p, 2, 1, 0);
        String before = Checks.stateOf(p);
        checks.due("pack() of what fits nowhere", p.pack(), -1);
        checks.due("the state behind it", Checks.stateOf(p), before);
        checks.due("pack() again", p.pack(), -1);
        checks.due("place behind it", p.place(3, 0, 0, 0), 3);
        checkAt(p, 3, 0, 2);
        p.takeOut(0);
        p.takeOut(3);
        checks.due("pack() as one is out", p.pack(), 2);
        checkAt(p, 2, 0, 0);
        checkAt(p, 1, 0, 4);
    }

    private static void packWithinLimits() {
        RackPlanner p = new RackPlanner();
        p.addRack(0, 4, 10, 100);
        p.addRack(1, 2, 100, 100);
        p.place(2, 1, 10, 0);
        p.place(2, 2, 0, 0);
        p.place(2, 3, 20, 0);
        checkAt(p, 2, 1, 0);
        checks.due("pack() within the weight of a rack", p.pack(), 2);
        checkAt(p, 2, 1, 0);
        checkAt(p, 1, 0, 0);
        checkAt(p, 0, 0, 2);
        p.setRow(0, 4, 10);
        p.cord(2, 2);
        checks.due("pack() of a state that is packed", p.pack(), 0);
        RackPlanner q = new RackPlanner();
        q.addRack(0, 4, 100, 100);
        q.addRack(1, 4, 100, 100);
        q.setRow(0, 5, 100);
        q.place(1, 5, 1, 0);
        q.place(2, 4, 1, 0);
        q.switchFeed(0);
        checks.due("pack() within the heat of a row, as if none was dark", q.pack(), 2);
        checkAt(q, 1, 0, 0);
        checkAt(q, 0, 1, 0);
    }

    /** Limits that are used up to the last: what one pack or roomFor tried weighs nothing in the next one. */
    private static void packAgain() {
        RackPlanner p = new RackPlanner();
        p.addRack(0, 4, 100, 100);
        p.addRack(0, 4, 100, 100);
        p.place(1, 10, 5, 0);
        p.place(3, 20, 6, 2);
        p.place(2, 30, 7, 1);
        p.setRow(0, 60, 18);
        p.setFeed(0, 30);
        p.setFeed(1, 50);
        checks.due("pack()", p.pack(), 2);
        checkAt(p, 1, 0, 0);
        checkAt(p, 2, 1, 0);
        checkAt(p, 0, 0, 3);
        String before = Checks.stateOf(p);
        checks.due("the state as roomFor has tried", Checks.stateOf(p), before);
        checks.due("pack() again", p.pack(), 0);
        checks.due("the state behind it", Checks.stateOf(p), before);
        checks.due("pack() a third time", p.pack(), 0);
        checks.due("the state behind that", Checks.stateOf(p), before);
    }

    /** Promise 12. */
    private static void machines() {
        RackPlanner p = twoRacks();
        checks.due("machines()", p.machines(), 0);
        p.place(1, 0, 0, 0);
        p.place(1, 0, 0, 0);
        checks.due("machines()", p.machines(), 2);
        p.takeOut(0);
        checks.due("machines()", p.machines(), 1);
        p.place(1, 0, 0, 0);
        p.pack();
        checks.due("machines()", p.machines(), 2);
    }

    /** Promises 13 and 14. */
    private static void whereMachinesAre() {
        RackPlanner p = twoRacks();
        p.place(6, 0, 0, 0);
        p.place(2, 0, 0, 0);
        p.place(1, 0, 0, 0);
        checkAt(p, 0, 0, 0);
        checkAt(p, 1, 1, 0);
        checkAt(p, 2, 1, 2);
        p.takeOut(1);
        checkAt(p, 2, 1, 2);
        for (int gone : new int[] {1, 3, -1, -2, Integer.MAX_VALUE, Integer.MIN_VALUE}) {
            checks.index("rackOf(" + gone + ")", () -> p.rackOf(gone));
            checks.index("slotOf(" + gone + ")", () -> p.slotOf(gone));
            checks.index("isDark(" + gone + ")", () -> p.isDark(gone));
        }
    }

    /** Promise 15. */
    private static void isDark() {
        RackPlanner p = twoRacks();
        for (int cords = 0; cords < 3; cords++) {
            p.place(1, 1, 0, cords);
        }
        checkDark(p, false, false, false);
        p.switchFeed(0);
        checkDark(p, true, false, false);
        p.switchFeed(1);
        checkDark(p, true, true, true);
        p.switchFeed(0);
        checkDark(p, false, true, false);
        p.place(1, 1, 0, 1);
        checks.due("isDark of what is placed at a failed feed", p.isDark(3), true);
    }

    private static void checkDark(RackPlanner p, boolean... want) {
        for (int machine = 0; machine < want.length; machine++) {
            checks.due("isDark(" + machine + ")", p.isDark(machine), want[machine]);
        }
    }

    /** Promise 16. */
    private static void machineAt() {
        RackPlanner p = twoRacks();
        p.place(6, 0, 0, 0);
        p.place(1, 0, 0, 0);
        p.place(2, 0, 0, 0);
        p.takeOut(1);
        int[] want = {-1, 2, 2, -1};
        for (int slot = 0; slot < 4; slot++) {
            checks.due("machineAt(1, " + slot + ")", p.machineAt(1, slot), want[slot]);
        }
        checks.due("machineAt(0, 5)", p.machineAt(0, 5), 0);
        int[][] wrong = {{-1, 0}, {2, 0}, {0, -1}, {0, 6}, {1, 4}, {1, 20}, {8, 0}, {Integer.MIN_VALUE, 0}, {0, Integer.MAX_VALUE}};
        for (int[] w : wrong) {
            checks.index("machineAt(" + w[0] + ", " + w[1] + ")", () -> p.machineAt(w[0], w[1]));
        }
    }

    /** Promise 17. */
    private static void next() {
        RackPlanner p = twoRacks();
        checks.due("next(-1) of no machines", p.next(-1), -1);
        p.place(1, 0, 0, 0);
        p.place(2, 0, 0, 0);
        p.place(4, 0, 0, 0);
        p.place(3, 0, 0, 0);
        p.takeOut(0);
        checks.due("next(-1)", p.next(-1), 1);
        p.place(1, 0, 0, 0);
        checks.due("next(-1)", p.next(-1), 4);
        checks.due("next(4)", p.next(4), 1);
        checks.due("next(1)", p.next(1), 3);
        checks.due("next(3)", p.next(3), 2);
        checks.due("next(2)", p.next(2), -1);
        checks.index("next(0)", () -> p.next(0));
        checks.index("next(5)", () -> p.next(5));
        checks.index("next(-2)", () -> p.next(-2));
        p.takeOut(1);
        checks.due("next(4) over free slots", p.next(4), 3);
        p.takeOut(3);
        checks.due("next(4) into the next rack", p.next(4), 2);
    }
}
