/** The sentences of the promises 18 to 22 that name an edge, one by one. */
public final class LoadsEdgesTest {
    private static final Checks checks = new Checks("LoadsEdgesTest");
    private static final int ANY = 10000;
    private static final int[] FEEDS = {0, 1};
    /** Racks that are not there where there are three. */
    private static final int[] NO_RACK = {-1, 3, 7, 8, Integer.MIN_VALUE, Integer.MAX_VALUE};
    private static final int[] NO_FEED = {-1, 2, Integer.MIN_VALUE, Integer.MAX_VALUE};

    public static void main(String[] args) {
        loadsOfEmptyRacks();
        loadsOfTheGreatest();
        powerOfNow();
        powerOfOneRackOnly();
        powerOfBehindCordAndPack();
        worstOfMachinesWithACord();
        worstOfBehindCordAndPack();
        weightOfOneRackOnly();
        weightOfDarkMachines();
        heatOfAllRacksOfARow();
        heatOfNow();
        heatOfRowsWithoutRacks();
        heatOfNoSuchRow();
        gapOfAnEmptyRack();
        gapOfAFullRack();
        gapAtTheBottomAndAtTheTop();
        gapIsTheGreatest();
        gapEndsAtTheTopOfItsRack();
        noSuchRack();
        noSuchFeed();
        noSuchRackComesFirst();
        checks.end();
    }

    /** Three racks, the last one empty; machines of each way. */
    private static void threeRacks(RackPlanner p) {
        p.addRack(1, 3, ANY, ANY);
        p.addRack(1, 4, ANY, ANY);
        p.addRack(3, 5, ANY, ANY);
        p.place(1, 10, 1, 0);
        p.place(1, 200, 2, 1);
        p.place(1, 1000, 4, 2);
        p.place(4, 7, 8, 2);
    }

    private static void loadsOfEmptyRacks() {
        RackPlanner p = new RackPlanner();
        for (int rack = 0; rack < 8; rack++) {
            p.addRack(rack % 4, 20, ANY, ANY);
        }
        for (int rack = 0; rack < 8; rack++) {
            for (int feed : FEEDS) {
                checks.due("powerOf", p.powerOf(rack, feed), 0);
                checks.due("worstOf", p.worstOf(rack, feed), 0);
            }
            checks.due("weightOf", p.weightOf(rack), 0);
            checks.due("gap", p.gap(rack), 20);
            checks.due("heatOf", p.heatOf(rack % 4), 0);
        }
    }

    /** The last rack loaded up to 10000 of all. */
    private static void loadsOfTheGreatest() {
        RackPlanner p = new RackPlanner();
        for (int rack = 0; rack < 7; rack++) {
            p.addRack(0, 1, 0, 0);
        }
        p.addRack(3, 20, ANY, ANY);
        for (int i = 0; i < 10; i++) {
            p.place(2, 1000, 1000, 2);
        }
        checks.due("powerOf(7, 0)", p.powerOf(7, 0), 5000);
        checks.due("powerOf(7, 1)", p.powerOf(7, 1), 5000);
        checks.due("worstOf(7, 0)", p.worstOf(7, 0), 10000);
        checks.due("worstOf(7, 1)", p.worstOf(7, 1), 10000);
        checks.due("weightOf(7)", p.weightOf(7), 10000);
        checks.due("heatOf(3)", p.heatOf(3), 10000);
        checks.due("gap(7)", p.gap(7), 0);
        p.switchFeed(0);
        checks.due("powerOf(7, 1) as feed 0 failed", p.powerOf(7, 1), 10000);
        checks.due("heatOf(3) as feed 0 failed", p.heatOf(3), 10000);
    }

    /** "the power that a rack takes from a feed now": 1000 of two cords, and 10 and 200 of one. */
    private static void powerOfNow() {
        RackPlanner p = new RackPlanner();
        threeRacks(p);
        power(p, 510, 700);
        p.switchFeed(0);
        power(p, 0, 1200);
        p.switchFeed(1);
        power(p, 0, 0);
        p.switchFeed(0);
        power(p, 1010, 0);
        p.switchFeed(1);
        power(p, 510, 700);
    }

    private static void power(RackPlanner p, int first, int second) {
        checks.due("powerOf(0, 0)", p.powerOf(0, 0), first);
        checks.due("powerOf(0, 1)", p.powerOf(0, 1), second);
    }

    private static void powerOfOneRackOnly() {
        RackPlanner p = new RackPlanner();
        threeRacks(p);
        checks.due("powerOf(1, 0) of an odd power", p.powerOf(1, 0), 4);
        checks.due("powerOf(1, 1) of an odd power", p.powerOf(1, 1), 3);
        checks.due("powerOf(2, 0) of an empty rack", p.powerOf(2, 0), 0);
        checks.due("powerOf(2, 1) of an empty rack", p.powerOf(2, 1), 0);
    }

    private static void powerOfBehindCordAndPack() {
        RackPlanner p = new RackPlanner();
        threeRacks(p);
        p.cord(2, 1);
        power(p, 10, 1200);
        p.cord(0, 2);
        power(p, 5, 1205);
        p.takeOut(1);
        power(p, 5, 1005);
        checks.due("pack()", p.pack(), 2);
        checks.at(p, 3, 1, 0);
        power(p, 5, 1005);
        p.takeOut(3);
        p.place(3, 50, 0, 0);
        checks.at(p, 4, 1, 0);
        checks.due("pack() into other racks", p.pack(), 3);
        checks.at(p, 4, 0, 0);
        power(p, 50, 0);
        checks.due("powerOf(1, 0)", p.powerOf(1, 0), 5);
        checks.due("powerOf(1, 1)", p.powerOf(1, 1), 1005);
    }

    /** "the sum of the powers of its machines with a cord to that feed": all of two cords on both. */
    private static void worstOfMachinesWithACord() {
        RackPlanner p = new RackPlanner();
        threeRacks(p);
        for (int feed : new int[] {0, 1, 0, 1}) {
            checks.due("worstOf(0, 0)", p.worstOf(0, 0), 1010);
            checks.due("worstOf(0, 1)", p.worstOf(0, 1), 1200);
            checks.due("worstOf(1, 0)", p.worstOf(1, 0), 7);
            checks.due("worstOf(1, 1)", p.worstOf(1, 1), 7);
            checks.due("worstOf(2, 0)", p.worstOf(2, 0), 0);
            checks.due("worstOf(2, 1)", p.worstOf(2, 1), 0);
            p.switchFeed(feed);
        }
    }

    private static void worstOfBehindCordAndPack() {
        RackPlanner p = new RackPlanner();
        threeRacks(p);
        p.cord(2, 1);
        checks.due("worstOf(0, 0)", p.worstOf(0, 0), 10);
        checks.due("worstOf(0, 1)", p.worstOf(0, 1), 1200);
        p.takeOut(1);
        checks.due("worstOf(0, 1) as one is out", p.worstOf(0, 1), 1000);
        p.takeOut(3);
        p.place(3, 50, 0, 0);
        p.pack();
        checks.due("worstOf(0, 0) behind a pack", p.worstOf(0, 0), 50);
        checks.due("worstOf(0, 1) behind a pack", p.worstOf(0, 1), 0);
        checks.due("worstOf(1, 0) behind a pack", p.worstOf(1, 0), 10);
        checks.due("worstOf(1, 1) behind a pack", p.worstOf(1, 1), 1000);
    }

    /** "the weight of the machines of a rack". */
    private static void weightOfOneRackOnly() {
        RackPlanner p = new RackPlanner();
        threeRacks(p);
        checks.due("weightOf(0)", p.weightOf(0), 7);
        checks.due("weightOf(1)", p.weightOf(1), 8);
        checks.due("weightOf(2)", p.weightOf(2), 0);
        p.takeOut(3);
        checks.due("weightOf(1) as all are out", p.weightOf(1), 0);
        p.takeOut(1);
        p.takeOut(2);
        p.place(3, 0, 16, 0);
        p.pack();
        checks.due("weightOf(0) behind a pack", p.weightOf(0), 16);
        checks.due("weightOf(1) behind a pack", p.weightOf(1), 1);
    }

    private static void weightOfDarkMachines() {
        RackPlanner p = new RackPlanner();
        threeRacks(p);
        p.switchFeed(0);
        p.switchFeed(1);
        checks.due("weightOf(0) of dark machines", p.weightOf(0), 7);
    }

    /** "the heat that a row makes": all its racks, and no other row's. */
    private static void heatOfAllRacksOfARow() {
        RackPlanner p = new RackPlanner();
        threeRacks(p);
        heat(p, 0, 1217, 0, 0);
        p.place(5, 3, 0, 0);
        heat(p, 0, 1217, 0, 3);
        p.takeOut(3);
        heat(p, 0, 1210, 0, 3);
    }

    /** "now": of machines that are not dark, in full whatever cords they have. */
    private static void heatOfNow() {
        RackPlanner p = new RackPlanner();
        threeRacks(p);
        p.switchFeed(0);
        heat(p, 0, 1207, 0, 0);
        p.cord(3, 0);
        heat(p, 0, 1200, 0, 0);
        p.switchFeed(1);
        heat(p, 0, 0, 0, 0);
        p.switchFeed(0);
        heat(p, 0, 1017, 0, 0);
        p.switchFeed(1);
        heat(p, 0, 1217, 0, 0);
    }

    private static void heat(RackPlanner p, int... due) {
        for (int row = 0; row < 4; row++) {
            checks.due("heatOf(" + row + ")", p.heatOf(row), due[row]);
        }
    }

    private static void heatOfRowsWithoutRacks() {
        RackPlanner p = new RackPlanner();
        heat(p, 0, 0, 0, 0);
        p.setRow(2, 0, 0);
        heat(p, 0, 0, 0, 0);
    }

    /** "if row is out of range". */
    private static void heatOfNoSuchRow() {
        for (int row : new int[] {-1, 4, 8, Integer.MIN_VALUE, Integer.MAX_VALUE}) {
            checks.argument("heatOf(" + row + ")", LoadsEdgesTest::threeRacks, p -> p.heatOf(row));
        }
        checks.answers("heatOf(0)", LoadsEdgesTest::threeRacks, p -> p.heatOf(0));
        checks.answers("heatOf(3)", LoadsEdgesTest::threeRacks, p -> p.heatOf(3));
    }

    private static void gapOfAnEmptyRack() {
        for (int slots = 1; slots <= 20; slots++) {
            RackPlanner p = new RackPlanner();
            p.addRack(0, slots, 0, 0);
            checks.due("gap of " + slots + " slots", p.gap(0), slots);
        }
    }

    /** 0 as no slot is free; 1 as one is. */
    private static void gapOfAFullRack() {
        RackPlanner p = new RackPlanner();
        p.addRack(0, 20, 0, 0);
        for (int slot = 0; slot < 20; slot++) {
            p.place(1, 0, 0, 0);
            checks.due("gap(0)", p.gap(0), 19 - slot);
        }
        for (int slot = 0; slot < 20; slot++) {
            p.takeOut(slot);
            checks.due("gap(0) of slot " + slot, p.gap(0), 1);
            p.place(1, 0, 0, 0);
            checks.at(p, 20 + slot, 0, slot);
        }
        checks.due("gap(0) as all is full again", p.gap(0), 0);
    }

    private static void gapAtTheBottomAndAtTheTop() {
        RackPlanner bottom = new RackPlanner();
        bottom.addRack(0, 6, 0, 0);
        bottom.place(4, 0, 0, 0);
        bottom.place(2, 0, 0, 0);
        bottom.takeOut(0);
        checks.due("gap at the bottom", bottom.gap(0), 4);
        RackPlanner top = new RackPlanner();
        top.addRack(0, 6, 0, 0);
        top.place(2, 0, 0, 0);
        checks.due("gap at the top", top.gap(0), 4);
    }

    /** "the greatest number of free slots side by side": not their sum; the first, the middle or the last. */
    private static void gapIsTheGreatest() {
        int[][] holes = {{1, 2, 3, 3}, {3, 2, 1, 3}, {2, 3, 1, 3}, {2, 2, 2, 2}, {1, 6, 5, 6}};
        for (int[] h : holes) {
            RackPlanner p = new RackPlanner();
            p.addRack(0, h[0] + h[1] + h[2] + 2, 0, 0);
            p.place(h[0], 0, 0, 0);
            p.place(1, 0, 0, 0);
            p.place(h[1], 0, 0, 0);
            p.place(1, 0, 0, 0);
            p.place(h[2], 0, 0, 0);
            p.takeOut(0);
            p.takeOut(2);
            p.takeOut(4);
            checks.due("gap(0) of three holes", p.gap(0), h[3]);
            p.takeOut(1);
            checks.due("gap(0) of two that grew together", p.gap(0), Math.max(h[0] + h[1] + 1, h[2]));
        }
    }

    /** "in a rack": free slots of the next rack are not side by side with its own. */
    private static void gapEndsAtTheTopOfItsRack() {
        RackPlanner p = new RackPlanner();
        p.addRack(0, 20, 0, 0);
        p.addRack(0, 20, 0, 0);
        p.place(6, 0, 0, 0);
        p.place(6, 0, 0, 0);
        p.place(6, 0, 0, 0);
        checks.due("gap(0)", p.gap(0), 2);
        checks.due("gap(1)", p.gap(1), 20);
    }

    /** "if there is no such rack". */
    private static void noSuchRack() {
        for (int rack : NO_RACK) {
            for (int feed : FEEDS) {
                checks.index("powerOf", LoadsEdgesTest::threeRacks, p -> p.powerOf(rack, feed));
                checks.index("worstOf", LoadsEdgesTest::threeRacks, p -> p.worstOf(rack, feed));
            }
            checks.index("weightOf", LoadsEdgesTest::threeRacks, p -> p.weightOf(rack));
            checks.index("gap", LoadsEdgesTest::threeRacks, p -> p.gap(rack));
        }
        RackPlanner p = new RackPlanner();
        for (int rack = 0; rack < 8; rack++) {
            p.addRack(0, 1, 0, 0);
        }
        checks.due("weightOf(7)", p.weightOf(7), 0);
        checks.index("powerOf(8, 0) behind eight racks", () -> p.powerOf(8, 0));
        checks.index("worstOf(8, 0) behind eight racks", () -> p.worstOf(8, 0));
        checks.index("weightOf(8) behind eight racks", () -> p.weightOf(8));
        checks.index("gap(8) behind eight racks", () -> p.gap(8));
    }

    /** "if feed is out of range". */
    private static void noSuchFeed() {
        for (int feed : NO_FEED) {
            for (int rack = 0; rack < 3; rack++) {
                int there = rack;
                checks.argument("powerOf", LoadsEdgesTest::threeRacks, p -> p.powerOf(there, feed));
                checks.argument("worstOf", LoadsEdgesTest::threeRacks, p -> p.worstOf(there, feed));
            }
        }
    }

    /** "of several exceptions it is the first one of the throws clause". */
    private static void noSuchRackComesFirst() {
        for (int rack : NO_RACK) {
            for (int feed : NO_FEED) {
                checks.index("powerOf", LoadsEdgesTest::threeRacks, p -> p.powerOf(rack, feed));
                checks.index("worstOf", LoadsEdgesTest::threeRacks, p -> p.worstOf(rack, feed));
            }
        }
        checks.index("powerOf without racks", p -> { }, p -> p.powerOf(0, 2));
        checks.index("worstOf without racks", p -> { }, p -> p.worstOf(0, 2));
    }
}
