/** The sentences of "What it is" and "Terms" that name an edge, one by one. */
public final class TermsEdgesTest {
    private static final Checks checks = new Checks("TermsEdgesTest");
    private static final int ANY = 10000;
    private static final int[] FEEDS = {0, 1};

    public static void main(String[] args) {
        numbersUpToCall512();
        trialsUpToCall512();
        rowsAre0To3();
        heatOfRowsIs10000AtFirst();
        weightOfRowsIs10000AtFirst();
        feedsAre0And1();
        feedsAre20000AtFirst();
        slotsAreNumberedFromTheBottom();
        weightOfRackIsWithinItsLimit();
        powerOfRackIsWithinItsLimitOnEachFeed();
        twoCordsTakeHalfFromEach();
        halvesAreOfEachMachine();
        ifOneFailsAllFromTheOther();
        darkIfAllItsFeedsHaveFailed();
        darkTakesNoPowerAndMakesNoHeat();
        worstIsAsIfTheOtherHadFailed();
        slotsMustBeThere();
        slotsMustBeFree();
        slotsOfTwoRacksAreNotSideBySide();
        weightOfRowIsThatOfAllItsRacks();
        heatOfRowIsThatOfAllItsRacks();
        heatOfRowIsAsIfNoneWasDark();
        feedsBearAllRacksTogether();
        feedsThatFailedKeepTheirLimits();
        firstRackInWhichItFitsSomewhere();
        lowestSlotThere();
        numbersInTheOrderOfPlacing();
        noNumberIsGivenAgain();
        checks.end();
    }

    /** "An object is used for at most 512 calls": call 512 is answered as the first ones. */
    private static void numbersUpToCall512() {
        RackPlanner p = new RackPlanner();
        p.addRack(3, 6, 0, 0);
        for (int number = 0; number < 255; number++) {
            checks.due("place", p.place(6, 0, 0, number % 3), number);
            checks.due("takeOut(" + number + ")", p.takeOut(number), 0);
        }
        checks.due("place as call 512", p.place(6, 0, 0, 2), 255);
    }

    /** "An object is used for at most 512 calls": what is tried out over and over leaves nothing behind. */
    private static void trialsUpToCall512() {
        RackPlanner p = new RackPlanner();
        for (int rack = 0; rack < 8; rack++) {
            p.addRack(rack % 4, 20, 600, 600);
        }
        for (int number = 0; number < 60; number++) {
            p.place(2, 60, 60, number % 3);
        }
        for (int call = 68; call < 512; call += 4) {
            checks.due("pack()", p.pack(), 0);
            checks.due("roomFor", p.roomFor(2, 60, 60, 2), 20);
            checks.due("roomByCounting", p.roomByCounting(2, 60, 60, 2), 20);
            checks.due("racksFor", p.racksFor(2, 60, 60, 2), 192);
        }
    }

    /** "There are four rows, 0 to 3." */
    private static void rowsAre0To3() {
        for (int row = 0; row < 4; row++) {
            RackPlanner p = new RackPlanner();
            p.addRack(row, 1, 0, 10);
            p.setRow(row, 8, 0);
            p.place(1, 7, 0, 0);
            for (int other = 0; other < 4; other++) {
                checks.due("heatOf(" + other + ")", p.heatOf(other), other == row ? 7 : 0);
            }
        }
        for (int row : new int[] {-1, 4, Integer.MIN_VALUE, Integer.MAX_VALUE}) {
            checks.argument("addRack in row " + row, p -> { }, p -> p.addRack(row, 1, 1, 1));
            checks.argument("setRow(" + row + ")", p -> { }, p -> p.setRow(row, 1, 1));
            checks.argument("heatOf(" + row + ")", p -> { }, p -> p.heatOf(row));
        }
    }

    /** "both are 10000 at first": the limit of heat, by cords to both feeds, as a rack bears 10000 of each. */
    private static void heatOfRowsIs10000AtFirst() {
        for (int row = 0; row < 4; row++) {
            RackPlanner p = new RackPlanner();
            p.addRack(row, 20, ANY, ANY);
            for (int power : new int[] {2000, 2000, 2000, 2000, 1999}) {
                p.place(1, power, 0, 0);
            }
            checks.due("racksFor up to 10000 of row " + row, p.racksFor(1, 1, 0, 1), 1);
            checks.due("racksFor up to 10001 of row " + row, p.racksFor(1, 2, 0, 1), 0);
            p.place(1, 1, 0, 1);
            checks.state("place above 10000", () -> p.place(1, 1, 0, 1));
            checks.due("racksFor no heat at 10000", p.racksFor(1, 0, 0, 1), 1);
        }
    }

    /** "both are 10000 at first": the limit of weight, by two racks, as one rack bears 10000. */
    private static void weightOfRowsIs10000AtFirst() {
        for (int row = 0; row < 4; row++) {
            RackPlanner p = new RackPlanner();
            p.addRack(row, 20, ANY, ANY);
            p.addRack(row, 20, ANY, ANY);
            p.addRack((row + 1) % 4, 1, ANY, ANY);
            for (int i = 0; i < 9; i++) {
                p.place(1, 0, 1000, 0);
            }
            p.place(1, 0, 999, 0);
            checks.due("racksFor up to 10000 of row " + row, p.racksFor(1, 0, 1, 0), 7);
            checks.due("racksFor up to 10001 of row " + row, p.racksFor(1, 0, 2, 0), 4);
            p.place(1, 0, 1, 0);
            checks.due("racksFor above 10000 of row " + row, p.racksFor(1, 0, 1, 0), 4);
            checks.due("racksFor no weight at 10000", p.racksFor(1, 0, 0, 0), 7);
        }
    }

    /** "There are two feeds, 0 and 1." */
    private static void feedsAre0And1() {
        for (int feed : FEEDS) {
            RackPlanner p = new RackPlanner();
            p.addRack(0, 1, 0, ANY);
            p.place(1, 9, 0, feed);
            checks.due("powerOf(0, " + feed + ")", p.powerOf(0, feed), 9);
            checks.due("powerOf(0, " + (1 - feed) + ")", p.powerOf(0, 1 - feed), 0);
            checks.due("worstOf(0, " + feed + ")", p.worstOf(0, feed), 9);
            checks.due("worstOf(0, " + (1 - feed) + ")", p.worstOf(0, 1 - feed), 0);
        }
        Checks.Script rack = p -> p.addRack(0, 1, 0, 0);
        for (int feed : new int[] {-1, 2, Integer.MIN_VALUE, Integer.MAX_VALUE}) {
            checks.argument("setFeed(" + feed + ")", rack, p -> p.setFeed(feed, 0));
            checks.argument("switchFeed(" + feed + ")", rack, p -> p.switchFeed(feed));
            checks.argument("hasFailed(" + feed + ")", rack, p -> p.hasFailed(feed));
            checks.argument("powerOf(0, " + feed + ")", rack, p -> p.powerOf(0, feed));
            checks.argument("worstOf(0, " + feed + ")", rack, p -> p.worstOf(0, feed));
        }
    }

    /** "each with a limit for the power that all racks take from it together, 20000 at first". */
    private static void feedsAre20000AtFirst() {
        for (int feed : FEEDS) {
            RackPlanner p = new RackPlanner();
            for (int row = 0; row < 3; row++) {
                p.addRack(row, 20, ANY, ANY);
            }
            for (int i = 0; i < 9; i++) {
                p.place(1, 2000, 0, feed);
            }
            p.place(1, 1999, 0, feed);
            checks.due("racksFor up to 20000", p.racksFor(1, 1, 0, feed), 6);
            checks.due("racksFor up to 20001", p.racksFor(1, 2, 0, feed), 0);
            p.place(1, 1, 0, feed);
            checks.state("place above 20000", () -> p.place(1, 1, 0, feed));
            checks.due("racksFor above 20000 by two cords", p.racksFor(1, 1, 0, 2), 0);
            checks.due("racksFor no power at 20000", p.racksFor(1, 0, 0, feed), 7);
            checks.due("racksFor the other feed", p.racksFor(1, 2000, 0, 1 - feed), 4);
        }
    }

    /** "has slots, numbered from 0 at the bottom". */
    private static void slotsAreNumberedFromTheBottom() {
        for (int slots : new int[] {1, 3, 20}) {
            RackPlanner p = new RackPlanner();
            p.addRack(0, slots, 0, 0);
            for (int slot = 0; slot < slots; slot++) {
                p.place(1, 0, 0, 0);
                checks.due("slotOf", p.slotOf(slot), slot);
                checks.due("machineAt(0, " + slot + ")", p.machineAt(0, slot), slot);
            }
            checks.index("the slot below the bottom", () -> p.machineAt(0, -1));
            checks.index("the slot above the top", () -> p.machineAt(0, slots));
        }
    }

    /** "the weight of the rack ... within their limits": the limit itself is within. */
    private static void weightOfRackIsWithinItsLimit() {
        RackPlanner p = new RackPlanner();
        p.addRack(0, 5, 100, 0);
        p.addRack(0, 5, 0, 0);
        checks.due("racksFor of the limit", p.racksFor(1, 0, 100, 0), 1);
        checks.due("racksFor above the limit", p.racksFor(1, 0, 101, 0), 0);
        p.place(1, 0, 60, 0);
        checks.due("racksFor up to the limit", p.racksFor(1, 0, 40, 0), 1);
        checks.due("racksFor 1 above the limit", p.racksFor(1, 0, 41, 0), 0);
        p.place(1, 0, 40, 0);
        checks.state("place at the limit", () -> p.place(1, 0, 1, 0));
        checks.due("racksFor no weight at the limits", p.racksFor(1, 0, 0, 0), 3);
    }

    /** "the worst of the rack on each feed ... within their limits": each feed for itself. */
    private static void powerOfRackIsWithinItsLimitOnEachFeed() {
        for (int feed : FEEDS) {
            RackPlanner p = new RackPlanner();
            p.addRack(0, 9, 0, 100);
            p.place(1, 60, 0, feed);
            checks.due("racksFor up to the limit", p.racksFor(1, 40, 0, feed), 1);
            checks.due("racksFor above the limit", p.racksFor(1, 41, 0, feed), 0);
            checks.due("racksFor up to the limit by two cords", p.racksFor(1, 40, 0, 2), 1);
            checks.due("racksFor above the limit by two cords", p.racksFor(1, 41, 0, 2), 0);
            checks.due("racksFor the limit of the other feed", p.racksFor(1, 100, 0, 1 - feed), 1);
            checks.due("racksFor above that of the other feed", p.racksFor(1, 101, 0, 1 - feed), 0);
            p.place(1, 40, 0, feed);
            checks.state("place at the limit", () -> p.place(1, 1, 0, feed));
            checks.due("racksFor no power at the limit", p.racksFor(1, 0, 0, 2), 1);
        }
    }

    /** "With two cords it takes half of its power from each feed, of an odd power 1 more from the feed 0". */
    private static void twoCordsTakeHalfFromEach() {
        int[][] halves = {{0, 0, 0}, {1, 1, 0}, {2, 1, 1}, {3, 2, 1}, {1999, 1000, 999}, {2000, 1000, 1000}};
        for (int[] h : halves) {
            RackPlanner p = new RackPlanner();
            p.addRack(0, 1, 0, ANY);
            p.place(1, h[0], 0, 2);
            checks.due("powerOf(0, 0) of power " + h[0], p.powerOf(0, 0), h[1]);
            checks.due("powerOf(0, 1) of power " + h[0], p.powerOf(0, 1), h[2]);
        }
    }

    /** "half of its power": of two machines of power 1 both take it from feed 0. */
    private static void halvesAreOfEachMachine() {
        RackPlanner p = new RackPlanner();
        p.addRack(0, 2, 0, ANY);
        p.place(1, 1, 0, 2);
        p.place(1, 1, 0, 2);
        checks.due("powerOf(0, 0)", p.powerOf(0, 0), 2);
        checks.due("powerOf(0, 1)", p.powerOf(0, 1), 0);
    }

    /** "if one feed fails, all of it from the other". */
    private static void ifOneFailsAllFromTheOther() {
        for (int power : new int[] {0, 1, 2, 1999, 2000}) {
            for (int feed : FEEDS) {
                RackPlanner p = new RackPlanner();
                p.addRack(0, 1, 0, ANY);
                p.place(1, power, 0, 2);
                p.switchFeed(feed);
                checks.due("powerOf at the feed that failed", p.powerOf(0, feed), 0);
                checks.due("powerOf at the other", p.powerOf(0, 1 - feed), power);
            }
        }
    }

    /** "A machine is dark if all feeds to which it has cords have failed": each way with each of the four states. */
    private static void darkIfAllItsFeedsHaveFailed() {
        boolean[][] dark = {{false, true, false, true}, {false, false, true, true}, {false, false, false, true}};
        for (int cords = 0; cords < 3; cords++) {
            for (int down = 0; down < 4; down++) {
                RackPlanner p = new RackPlanner();
                p.addRack(0, 1, 0, ANY);
                p.place(1, 5, 0, cords);
                let(p, down);
                checks.due("isDark, cords " + cords + ", failed " + down, p.isDark(0), dark[cords][down]);
            }
        }
    }

    /** Lets feed 0 fail for the bit 1, and feed 1 for the bit 2. */
    private static void let(RackPlanner p, int down) {
        if ((down & 1) != 0) {
            p.switchFeed(0);
        }
        if ((down & 2) != 0) {
            p.switchFeed(1);
        }
    }

    /** "a dark machine takes no power and makes no heat". */
    private static void darkTakesNoPowerAndMakesNoHeat() {
        int[][][] due = {
            {{7, 0, 7}, {0, 0, 0}, {7, 0, 7}, {0, 0, 0}},
            {{0, 7, 7}, {0, 7, 7}, {0, 0, 0}, {0, 0, 0}},
            {{4, 3, 7}, {0, 7, 7}, {7, 0, 7}, {0, 0, 0}}};
        for (int cords = 0; cords < 3; cords++) {
            for (int down = 0; down < 4; down++) {
                RackPlanner p = new RackPlanner();
                p.addRack(2, 1, 0, ANY);
                p.place(1, 7, 0, cords);
                let(p, down);
                String when = ", cords " + cords + ", failed " + down;
                checks.due("powerOf(0, 0)" + when, p.powerOf(0, 0), due[cords][down][0]);
                checks.due("powerOf(0, 1)" + when, p.powerOf(0, 1), due[cords][down][1]);
                checks.due("heatOf(2)" + when, p.heatOf(2), due[cords][down][2]);
            }
        }
    }

    /** "(as if the other feed had failed, and this one had not)": the same whatever has failed. */
    private static void worstIsAsIfTheOtherHadFailed() {
        int[][] due = {{7, 0}, {0, 7}, {7, 7}};
        for (int cords = 0; cords < 3; cords++) {
            for (int down = 0; down < 4; down++) {
                RackPlanner p = new RackPlanner();
                p.addRack(2, 1, 0, ANY);
                p.place(1, 7, 0, cords);
                let(p, down);
                checks.due("worstOf(0, 0), cords " + cords + ", failed " + down, p.worstOf(0, 0), due[cords][0]);
                checks.due("worstOf(0, 1), cords " + cords + ", failed " + down, p.worstOf(0, 1), due[cords][1]);
            }
        }
    }

    /** "if that slot and those above it, as many as it takes, are there". */
    private static void slotsMustBeThere() {
        for (int slots = 1; slots < 6; slots++) {
            int more = slots + 1;
            Checks.Script rack = p -> p.addRack(0, more - 1, 0, 0);
            checks.answers("place of all its slots", rack, p -> p.place(more - 1, 0, 0, 0));
            checks.state("place of one slot more than the rack has", rack, p -> p.place(more, 0, 0, 0));
        }
        RackPlanner p = new RackPlanner();
        p.addRack(0, 20, 0, 0);
        for (int i = 0; i < 3; i++) {
            p.place(6, 0, 0, 0);
        }
        checks.state("place of 3 slots where 2 are left at the top", () -> p.place(3, 0, 0, 0));
        checks.due("place of 2 slots at the top", p.place(2, 0, 0, 0), 3);
        checks.at(p, 3, 0, 18);
        checks.due("machineAt(0, 19)", p.machineAt(0, 19), 3);
    }

    /** "if that slot and those above it, as many as it takes, are ... free". */
    private static void slotsMustBeFree() {
        for (int hole = 1; hole <= 5; hole++) {
            int free = hole;
            Checks.Script holed = p -> {
                p.addRack(0, 2 + free, 0, 0);
                p.place(1, 0, 0, 0);
                p.place(free, 0, 0, 0);
                p.place(1, 0, 0, 0);
                p.takeOut(1);
            };
            checks.state("place of one slot more than the hole has", holed, p -> p.place(free + 1, 0, 0, 0));
            RackPlanner p = new RackPlanner();
            holed.run(p);
            checks.due("place into the hole", p.place(free, 0, 0, 0), 3);
            checks.at(p, 3, 0, 1);
            checks.state("place as all is full", () -> p.place(1, 0, 0, 0));
        }
    }

    /** "fits at a slot of a rack": the top of one rack and the bottom of the next are not side by side. */
    private static void slotsOfTwoRacksAreNotSideBySide() {
        RackPlanner p = new RackPlanner();
        p.addRack(0, 20, 0, 0);
        p.addRack(0, 20, 0, 0);
        for (int i = 0; i < 3; i++) {
            p.place(6, 0, 0, 0);
        }
        p.place(4, 0, 0, 0);
        checks.at(p, 3, 1, 0);
        Checks.Script twos = q -> {
            q.addRack(0, 2, 0, 0);
            q.addRack(0, 2, 0, 0);
        };
        checks.state("place of 3 slots in two racks of 2", twos, q -> q.place(3, 0, 0, 0));
    }

    /** "the weight of the row": of all its racks, and of no other row's. */
    private static void weightOfRowIsThatOfAllItsRacks() {
        RackPlanner p = new RackPlanner();
        p.addRack(1, 2, 50, 0);
        p.addRack(2, 9, ANY, 0);
        p.addRack(1, 9, ANY, 0);
        p.setRow(1, ANY, 70);
        p.place(1, 0, 50, 0);
        checks.due("racksFor up to the limit", p.racksFor(1, 0, 20, 0), 6);
        checks.due("racksFor above the limit", p.racksFor(1, 0, 21, 0), 2);
        p.setRow(2, ANY, 5);
        p.place(1, 0, 20, 0);
        checks.at(p, 1, 2, 0);
        checks.state("place at the limit", () -> p.place(1, 0, 6, 0));
        checks.due("racksFor no weight at the limit", p.racksFor(1, 0, 0, 0), 7);
    }

    /** "the heat of the row": of all its racks, and of no other row's. */
    private static void heatOfRowIsThatOfAllItsRacks() {
        RackPlanner p = new RackPlanner();
        p.addRack(1, 2, 0, 50);
        p.addRack(2, 9, 0, ANY);
        p.addRack(1, 9, 0, ANY);
        p.setRow(1, 70, ANY);
        p.place(1, 50, 0, 0);
        checks.due("racksFor up to the limit", p.racksFor(1, 20, 0, 1), 7);
        checks.due("racksFor above the limit", p.racksFor(1, 21, 0, 1), 2);
        checks.due("racksFor up to the limit by two cords: heat counts once", p.racksFor(1, 20, 0, 2), 6);
        p.setRow(2, 5, ANY);
        p.place(1, 20, 0, 0);
        checks.at(p, 1, 2, 0);
        checks.state("place at the limit", () -> p.place(1, 6, 0, 1));
        checks.due("racksFor no heat at the limit", p.racksFor(1, 0, 0, 1), 7);
    }

    /** "the heat of the row (with all machines, as if none was dark)". */
    private static void heatOfRowIsAsIfNoneWasDark() {
        RackPlanner p = new RackPlanner();
        p.addRack(1, 9, 0, ANY);
        p.setRow(1, 70, 0);
        p.place(1, 40, 0, 0);
        p.switchFeed(0);
        p.switchFeed(1);
        checks.due("heatOf(1)", p.heatOf(1), 0);
        checks.due("racksFor up to the limit", p.racksFor(1, 30, 0, 1), 1);
        checks.due("racksFor above the limit", p.racksFor(1, 31, 0, 1), 0);
        checks.state("place above the limit", () -> p.place(1, 31, 0, 0));
        checks.due("roomFor", p.roomFor(1, 30, 0, 1), 1);
        checks.due("roomByCounting", p.roomByCounting(1, 30, 0, 1), 1);
    }

    /** "the worst of all racks together on each feed ... within their limits". */
    private static void feedsBearAllRacksTogether() {
        for (int feed : FEEDS) {
            RackPlanner p = new RackPlanner();
            p.addRack(0, 1, 0, ANY);
            p.addRack(1, 1, 0, ANY);
            p.addRack(3, 9, 0, ANY);
            p.setFeed(feed, 100);
            p.place(1, 30, 0, feed);
            p.place(1, 30, 0, 2);
            checks.due("racksFor up to the limit", p.racksFor(1, 40, 0, feed), 4);
            checks.due("racksFor above the limit", p.racksFor(1, 41, 0, feed), 0);
            checks.due("racksFor up to the limit by two cords", p.racksFor(1, 40, 0, 2), 4);
            checks.due("racksFor above the limit by two cords", p.racksFor(1, 41, 0, 2), 0);
            checks.due("racksFor the other feed", p.racksFor(1, 2000, 0, 1 - feed), 4);
            p.place(1, 40, 0, feed);
            checks.state("place at the limit", () -> p.place(1, 1, 0, feed));
            checks.due("racksFor no power at the limit", p.racksFor(1, 0, 0, 2), 4);
        }
    }

    /** "(as if the other feed had failed, and this one had not)": a feed that has failed holds back what it would. */
    private static void feedsThatFailedKeepTheirLimits() {
        for (int feed : FEEDS) {
            RackPlanner p = new RackPlanner();
            p.addRack(0, 9, 0, 50);
            p.addRack(0, 9, 0, ANY);
            p.setFeed(feed, 60);
            p.switchFeed(feed);
            p.place(1, 40, 0, feed);
            checks.due("racksFor up to the rack's limit", p.racksFor(1, 10, 0, feed), 3);
            checks.due("racksFor above the rack's limit", p.racksFor(1, 11, 0, feed), 2);
            checks.due("racksFor up to the feed's limit", p.racksFor(1, 20, 0, 2), 2);
            checks.due("racksFor above the feed's limit", p.racksFor(1, 21, 0, 2), 0);
        }
    }

    /** "It is placed in the first rack in which it fits somewhere": past racks that lack one thing each. */
    private static void firstRackInWhichItFitsSomewhere() {
        RackPlanner p = new RackPlanner();
        p.setRow(1, 49, ANY);
        p.setRow(2, ANY, 49);
        p.addRack(0, 2, ANY, ANY);
        p.addRack(0, 20, 49, ANY);
        p.addRack(0, 20, ANY, 49);
        p.addRack(1, 20, ANY, ANY);
        p.addRack(2, 20, ANY, ANY);
        p.addRack(3, 20, ANY, ANY);
        p.addRack(0, 20, ANY, ANY);
        p.place(3, 50, 50, 0);
        p.place(3, 50, 50, 1);
        p.place(3, 50, 50, 2);
        p.place(2, 50, 50, 0);
        checks.at(p, 0, 5, 0);
        checks.at(p, 1, 5, 3);
        checks.at(p, 2, 5, 6);
        checks.at(p, 3, 0, 0);
        p.place(3, 50, 49, 0);
        p.place(3, 49, 50, 0);
        p.place(3, 49, 50, 0);
        p.place(3, 50, 49, 0);
        checks.at(p, 4, 1, 0);
        checks.at(p, 5, 2, 0);
        checks.at(p, 6, 3, 0);
        checks.at(p, 7, 4, 0);
    }

    /** "at the lowest slot there": the lowest that fits, not the tightest. */
    private static void lowestSlotThere() {
        RackPlanner p = new RackPlanner();
        p.addRack(0, 20, 0, 0);
        for (int slots : new int[] {1, 1, 5, 1, 2, 1, 6}) {
            p.place(slots, 0, 0, 0);
        }
        for (int machine : new int[] {0, 2, 4}) {
            p.takeOut(machine);
        }
        p.place(2, 0, 0, 0);
        checks.at(p, 7, 0, 2);
        p.place(1, 0, 0, 0);
        checks.at(p, 8, 0, 0);
        checks.state("place of 4 slots where 3, 2 and 3 are free", () -> p.place(4, 0, 0, 0));
    }

    /** "Machines are numbered from 0 in the order in which they were placed": what was refused has no number. */
    private static void numbersInTheOrderOfPlacing() {
        RackPlanner p = new RackPlanner();
        p.addRack(0, 3, 0, 0);
        checks.state("place that is too heavy", () -> p.place(1, 0, 1, 0));
        checks.argument("place that is out of range", () -> p.place(1, 0, -1, 0));
        checks.due("the first number", p.place(1, 0, 0, 0), 0);
        checks.state("place that is too heavy", () -> p.place(1, 0, 1, 0));
        p.racksFor(1, 0, 0, 0);
        p.roomFor(1, 0, 0, 0);
        p.roomByCounting(1, 0, 0, 0);
        p.pack();
        checks.due("the second number", p.place(1, 0, 0, 0), 1);
        RackPlanner q = new RackPlanner();
        q.addRack(0, 1, 0, 0);
        checks.due("the first number of another object", q.place(1, 0, 0, 0), 0);
    }

    /** "no number is given again": not the greatest one either, and not as all are out. */
    private static void noNumberIsGivenAgain() {
        RackPlanner p = new RackPlanner();
        p.addRack(0, 3, 0, 0);
        p.place(1, 0, 0, 0);
        p.place(1, 0, 0, 0);
        p.takeOut(1);
        checks.due("place behind the last number, which is out", p.place(1, 0, 0, 0), 2);
        p.takeOut(0);
        p.takeOut(2);
        checks.due("place as all are out", p.place(1, 0, 0, 0), 3);
        p.pack();
        checks.due("place behind a pack", p.place(1, 0, 0, 0), 4);
        checks.index("a number that is out", () -> p.rackOf(2));
    }
}
