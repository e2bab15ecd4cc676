/** The sentences of the promises 23 to 25 that name an edge, one by one. */
public final class RoomEdgesTest {
    private static final Checks checks = new Checks("RoomEdgesTest");
    private static final int ANY = 10000;

    public static void main(String[] args) {
        inRanges();
        withoutRacks();
        allFull();
        racksForTellsEachRackByItsBit();
        racksForAtEachLimit();
        racksForUsesTheWholeKind();
        racksForWhateverTheNumber();
        roomOfHoles();
        roomAtEachLimit();
        roomOfRacksThenRowsThenAll();
        roomIsHeldBackByTheLeast();
        roomOfWhatTakesNothing();
        roomOfWhatTakesNothingAtFullLimits();
        roomByTwoCords();
        roomWhateverTheNumber();
        roomOfTheGreatest();
        roomAsIfNoneWasDark();
        sameWhateverHasFailed();
        nothingIsPlaced();
        sameAsPlacing();
        checks.end();
    }

    /** "slots: 1 to 6", "power: 0 to 2000", "weight: 0 to 1000", "cords: 0 to 2". */
    private static void inRanges() {
        Checks.Script[] before = {p -> { }, p -> p.addRack(1, 6, 500, 500)};
        int[] plain = {2, 100, 100, 1};
        int[] least = {1, 0, 0, 0};
        int[] most = {6, 2000, 1000, 2};
        for (Checks.Script script : before) {
            checks.ranges("racksFor", script, (p, a) -> p.racksFor(a[0], a[1], a[2], a[3]), plain, least, most);
            checks.ranges("roomFor", script, (p, a) -> p.roomFor(a[0], a[1], a[2], a[3]), plain, least, most);
            checks.ranges("roomByCounting", script, (p, a) -> p.roomByCounting(a[0], a[1], a[2], a[3]), plain, least, most);
        }
    }

    /** Promises 24 and 25: "Returns the same". */
    private static void room(RackPlanner p, int[] kind, int want) {
        String text = "(" + kind[0] + ", " + kind[1] + ", " + kind[2] + ", " + kind[3] + ")";
        checks.due("roomFor" + text, p.roomFor(kind[0], kind[1], kind[2], kind[3]), want);
        checks.due("roomByCounting" + text, p.roomByCounting(kind[0], kind[1], kind[2], kind[3]), want);
    }

    private static void room(RackPlanner p, int slots, int power, int weight, int cords, int want) {
        room(p, new int[] {slots, power, weight, cords}, want);
    }

    private static void withoutRacks() {
        RackPlanner p = new RackPlanner();
        for (int cords = 0; cords < 3; cords++) {
            checks.due("racksFor", p.racksFor(1, 0, 0, cords), 0);
            room(p, 1, 0, 0, cords, 0);
            room(p, 6, 2000, 1000, cords, 0);
        }
    }

    /** No slot is free; then one is. */
    private static void allFull() {
        RackPlanner p = new RackPlanner();
        for (int rack = 0; rack < 8; rack++) {
            p.addRack(rack % 4, 6, ANY, ANY);
            p.place(6, 0, 0, 0);
        }
        checks.due("racksFor", p.racksFor(1, 0, 0, 0), 0);
        room(p, 1, 0, 0, 0, 0);
        p.takeOut(7);
        p.place(5, 0, 0, 0);
        checks.due("racksFor 1 slot", p.racksFor(1, 0, 0, 0), 128);
        checks.due("racksFor 2 slots", p.racksFor(2, 0, 0, 0), 0);
        room(p, 1, 0, 0, 0, 1);
        room(p, 2, 0, 0, 0, 0);
    }

    /** "1 for the rack 0, 2 for 1, 4 for 2, and so on, added up": each alone, and all. */
    private static void racksForTellsEachRackByItsBit() {
        for (int only = 0; only < 8; only++) {
            RackPlanner p = new RackPlanner();
            for (int rack = 0; rack < 8; rack++) {
                p.addRack(rack % 4, rack == only ? 6 : 5, ANY, ANY);
            }
            checks.due("racksFor 6 slots", p.racksFor(6, 0, 0, 0), 1 << only);
            checks.due("racksFor 5 slots", p.racksFor(5, 0, 0, 0), 255);
        }
    }

    /** "in which a machine would fit": just at a limit, not 1 above. */
    private static void racksForAtEachLimit() {
        for (int kind = 0; kind < Limits.KINDS; kind++) {
            RackPlanner p = new RackPlanner();
            Limits.racks(p, kind, 50);
            Limits.place(p, kind, 20);
            int left = Limits.isOfAll(kind) ? 80 : 30;
            checks.due("racksFor at " + Limits.name(kind), racksFor(p, Limits.machine(kind, 1, left)), 3);
            checks.due("racksFor above " + Limits.name(kind), racksFor(p, Limits.machine(kind, 1, left + 1)), Limits.isOfAll(kind) ? 0 : 2);
            checks.due("racksFor nothing of " + Limits.name(kind), racksFor(p, Limits.machine(kind, 1, 0)), 3);
            Limits.place(p, kind, left);
            checks.due("racksFor 1 as " + Limits.name(kind) + " is full", racksFor(p, Limits.machine(kind, 1, 1)), Limits.isOfAll(kind) ? 0 : 2);
            checks.due("racksFor 0 as " + Limits.name(kind) + " is full", racksFor(p, Limits.machine(kind, 1, 0)), 3);
        }
    }

    private static int racksFor(RackPlanner p, int[] kind) {
        return p.racksFor(kind[0], kind[1], kind[2], kind[3]);
    }

    /** Slots side by side, not as many in all; each rack told as if the machine was placed in no other one. */
    private static void racksForUsesTheWholeKind() {
        RackPlanner p = new RackPlanner();
        p.addRack(0, 3, 10, 10);
        p.addRack(0, 3, 10, 10);
        p.setRow(0, 10, 10);
        checks.due("racksFor what one of both bears", p.racksFor(3, 10, 10, 2), 3);
        p.place(1, 0, 0, 0);
        p.place(1, 0, 0, 0);
        p.takeOut(0);
        checks.due("racksFor 2 slots where 1 and 1 are free", p.racksFor(2, 0, 0, 0), 2);
    }

    /** "whatever the number of machines is". */
    private static void racksForWhateverTheNumber() {
        RackPlanner p = new RackPlanner();
        for (int rack = 0; rack < 8; rack++) {
            p.addRack(rack % 4, 20, 0, 0);
        }
        for (int i = 0; i < 60; i++) {
            p.place(1, 0, 0, 0);
        }
        checks.due("racksFor behind sixty", p.racksFor(1, 0, 0, 0), 248);
        room(p, 1, 0, 0, 0, 100);
        room(p, 6, 0, 0, 0, 15);
    }

    /** Each hole bears as many as fit side by side in it: n slots, n / slots machines. */
    private static void roomOfHoles() {
        for (int hole = 1; hole <= 6; hole++) {
            RackPlanner p = new RackPlanner();
            p.addRack(0, 2 * hole + 3, 0, 0);
            for (int slots : new int[] {1, hole, 1, hole, 1}) {
                p.place(slots, 0, 0, 0);
            }
            p.takeOut(1);
            p.takeOut(3);
            for (int slots = 1; slots <= 6; slots++) {
                room(p, slots, 0, 0, 0, 2 * (hole / slots));
            }
        }
        for (int rackSlots = 1; rackSlots <= 20; rackSlots++) {
            RackPlanner p = new RackPlanner();
            p.addRack(0, rackSlots, 0, 0);
            for (int slots = 1; slots <= 6; slots++) {
                room(p, slots, 0, 0, 2, rackSlots / slots);
            }
        }
    }

    /** What is left of a limit bears as many as it bears in full: 9 none of 10, 10 one, 19 one, 20 two. */
    private static void roomAtEachLimit() {
        int[][] rests = {{0, 0}, {1, 0}, {9, 0}, {10, 1}, {11, 1}, {19, 1}, {20, 2}, {29, 2}, {30, 3}};
        for (int kind = 0; kind < Limits.KINDS; kind++) {
            for (int[] rest : rests) {
                RackPlanner p = new RackPlanner();
                Limits.racks(p, kind, 50);
                Limits.place(p, kind, 50);
                Limits.place(p, kind, 50 - rest[0]);
                room(p, Limits.machine(kind, 1, 10), rest[1]);
                room(p, Limits.machine(kind, 2, 10), rest[1]);
            }
        }
    }

    /** "for each rack by ... its limits, then for each row by those of its racks and its limits, then for all by the rows and the feeds". */
    private static void roomOfRacksThenRowsThenAll() {
        RackPlanner p = new RackPlanner();
        p.addRack(0, 20, 35, ANY);
        p.addRack(0, 20, 1000, 45);
        p.addRack(1, 20, 1000, ANY);
        p.addRack(1, 2, 1000, ANY);
        room(p, 1, 10, 10, 0, 3 + 4 + 20 + 2);
        p.setRow(0, 65, ANY);
        room(p, 1, 10, 10, 0, 6 + 22);
        p.setRow(1, ANY, 109);
        room(p, 1, 10, 10, 0, 6 + 10);
        p.setFeed(1, 155);
        room(p, 1, 10, 10, 0, 16);
        room(p, 1, 10, 10, 1, 15);
        room(p, 1, 10, 10, 2, 15);
        p.setFeed(0, 149);
        room(p, 1, 10, 10, 0, 14);
        room(p, 1, 10, 10, 2, 14);
        p.setRow(0, 0, ANY);
        room(p, 1, 10, 10, 2, 10);
        p.setRow(1, ANY, 0);
        room(p, 1, 10, 10, 2, 0);
        room(p, 1, 10, 0, 2, 14);
        room(p, 1, 0, 10, 2, 3 + 20);
    }

    /** A rack that bears little does not let another one bear more than its own. */
    private static void roomIsHeldBackByTheLeast() {
        RackPlanner p = new RackPlanner();
        p.addRack(0, 1, ANY, ANY);
        p.addRack(0, 20, 10, ANY);
        p.addRack(1, 20, ANY, 10);
        p.addRack(2, 20, ANY, ANY);
        p.setRow(2, 20, ANY);
        p.addRack(3, 20, ANY, ANY);
        p.setRow(3, ANY, 30);
        room(p, 1, 10, 10, 0, 1 + 1 + 1 + 2 + 3);
        room(p, 1, 11, 10, 0, 1 + 1 + 1 + 3);
        room(p, 1, 10, 11, 0, 1 + 1 + 2 + 2);
        room(p, 2, 10, 10, 0, 1 + 1 + 2 + 3);
    }

    /** No power and no weight: slots alone tell, though each limit is 0. */
    private static void roomOfWhatTakesNothing() {
        RackPlanner p = new RackPlanner();
        for (int row = 0; row < 4; row++) {
            p.setRow(row, 0, 0);
            p.addRack(row, 20, 0, 0);
            p.addRack(row, 20, 0, 0);
        }
        p.setFeed(0, 0);
        p.setFeed(1, 0);
        for (int cords = 0; cords < 3; cords++) {
            room(p, 1, 0, 0, cords, 160);
            room(p, 6, 0, 0, cords, 24);
            room(p, 1, 1, 0, cords, 0);
            room(p, 1, 0, 1, cords, 0);
        }
        checks.due("racksFor", p.racksFor(6, 0, 0, 2), 255);
    }

    private static void roomOfWhatTakesNothingAtFullLimits() {
        for (int kind = 0; kind < Limits.KINDS; kind++) {
            RackPlanner p = new RackPlanner();
            Limits.racks(p, kind, 50);
            Limits.place(p, kind, 50);
            Limits.place(p, kind, 50);
            room(p, Limits.machine(kind, 1, 0), 38);
            room(p, Limits.machine(kind, 1, 1), 0);
        }
    }

    /** Two cords are counted in full on both feeds, and once as heat; the feed that has less tells. */
    private static void roomByTwoCords() {
        RackPlanner p = new RackPlanner();
        p.addRack(0, 20, 0, 100);
        room(p, 1, 11, 0, 2, 9);
        p.place(1, 35, 0, 0);
        room(p, 1, 11, 0, 2, 5);
        p.place(1, 57, 0, 1);
        room(p, 1, 11, 0, 2, 3);
        room(p, 1, 11, 0, 0, 5);
        room(p, 1, 11, 0, 1, 3);
        p.setRow(0, 92 + 22, 0);
        room(p, 1, 11, 0, 2, 2);
        p.setFeed(1, 57 + 11);
        room(p, 1, 11, 0, 2, 1);
        p.setFeed(0, 35 + 10);
        room(p, 1, 11, 0, 2, 0);
        room(p, 1, 11, 0, 1, 1);
    }

    /** "whatever the number of machines would be": above 60, and as 60 are placed. */
    private static void roomWhateverTheNumber() {
        RackPlanner p = new RackPlanner();
        for (int rack = 0; rack < 8; rack++) {
            p.addRack(rack % 4, 20, ANY, ANY);
        }
        room(p, 1, 0, 0, 0, 160);
        room(p, 1, 100, 100, 2, 160);
        room(p, 2, 1, 1, 1, 80);
        for (int i = 0; i < 60; i++) {
            p.place(1, 0, 0, 0);
        }
        room(p, 1, 0, 0, 0, 100);
        checks.state("place behind sixty", () -> p.place(1, 0, 0, 0));
    }

    /** The greatest power and weight against the greatest limits. */
    private static void roomOfTheGreatest() {
        RackPlanner p = new RackPlanner();
        for (int rack = 0; rack < 8; rack++) {
            p.addRack(rack % 4, 20, ANY, ANY);
        }
        room(p, 6, 2000, 1000, 2, 10);
        room(p, 6, 2000, 1000, 0, 10);
        room(p, 6, 0, 1000, 0, 24);
        room(p, 1, 0, 1000, 0, 40);
        room(p, 1, 1999, 0, 1, 10);
        room(p, 1, 1000, 0, 1, 20);
        p.place(1, 1, 0, 2);
        room(p, 1, 2000, 0, 2, 9);
    }

    /** Dark machines are counted as if they were not, and a failed feed as if it stood. */
    private static void roomAsIfNoneWasDark() {
        RackPlanner p = new RackPlanner();
        p.addRack(0, 20, 0, 100);
        p.setRow(0, 120, 0);
        p.place(1, 35, 0, 0);
        p.switchFeed(0);
        room(p, 1, 10, 0, 0, 6);
        room(p, 1, 10, 0, 1, 8);
        p.switchFeed(1);
        room(p, 1, 10, 0, 2, 6);
        room(p, 1, 86, 0, 1, 0);
        checks.due("racksFor above the heat", p.racksFor(1, 86, 0, 1), 0);
        checks.due("racksFor up to the heat", p.racksFor(1, 85, 0, 1), 1);
    }

    /** "(as if the other feed had failed, and this one had not)": each limit bears as much with feeds that have failed. */
    private static void sameWhateverHasFailed() {
        for (int kind = 0; kind < Limits.KINDS; kind++) {
            for (int down = 0; down < 4; down++) {
                RackPlanner p = new RackPlanner();
                Limits.racks(p, kind, 50);
                Limits.place(p, kind, 25);
                if (down % 2 == 1) {
                    p.switchFeed(0);
                }
                if (down / 2 == 1) {
                    p.switchFeed(1);
                }
                int left = Limits.isOfAll(kind) ? 75 : 25;
                String when = Limits.name(kind) + ", failed " + down;
                room(p, Limits.machine(kind, 1, 10), 7);
                room(p, Limits.machine(kind, 1, 0), 39);
                checks.due("racksFor at " + when, racksFor(p, Limits.machine(kind, 1, left)), 3);
                checks.due("racksFor above " + when, racksFor(p, Limits.machine(kind, 1, left + 1)), Limits.isOfAll(kind) ? 0 : 2);
                Limits.place(p, kind, left);
                checks.at(p, 1, 0, 1);
            }
        }
    }

    /** None of the three changes anything. */
    private static void nothingIsPlaced() {
        Checks.Script before = p -> {
            p.addRack(0, 6, 100, 100);
            p.addRack(1, 4, 100, 100);
            p.place(2, 10, 10, 0);
            p.place(1, 10, 10, 2);
            p.place(1, 20, 10, 1);
            p.takeOut(1);
        };
        checks.changesNothing("racksFor", before, p -> p.racksFor(1, 10, 10, 2));
        checks.changesNothing("roomFor", before, p -> p.roomFor(1, 10, 10, 2));
        checks.changesNothing("roomByCounting", before, p -> p.roomByCounting(1, 10, 10, 2));
    }

    /** "how many machines of one kind could be placed, one after the other": as many as place then places. */
    private static void sameAsPlacing() {
        int[][] kinds = {{1, 0, 0, 2}, {2, 30, 10, 0}, {3, 7, 40, 1}, {2, 25, 25, 2}, {6, 100, 5, 2}, {1, 50, 3, 1}};
        for (int[] kind : kinds) {
            RackPlanner p = new RackPlanner();
            p.addRack(0, 9, 70, 120);
            p.addRack(1, 20, 200, 200);
            p.addRack(0, 12, 100, 90);
            p.setRow(0, 200, 120);
            p.setFeed(0, 230);
            for (int slots : new int[] {2, 1, 3, 2, 1, 6}) {
                p.place(slots, 5 * slots, 3 * slots, slots % 3);
            }
            p.takeOut(0);
            p.takeOut(3);
            int counted = p.roomByCounting(kind[0], kind[1], kind[2], kind[3]);
            int told = p.roomFor(kind[0], kind[1], kind[2], kind[3]);
            for (int i = 0; i < told; i++) {
                checks.due("place", p.place(kind[0], kind[1], kind[2], kind[3]), 6 + i);
            }
            checks.state("one more", () -> p.place(kind[0], kind[1], kind[2], kind[3]));
            checks.due("roomByCounting", counted, told);
        }
    }
}
