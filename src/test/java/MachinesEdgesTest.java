/** The sentences of the promises 8 to 17 that name an edge, one by one. */
public final class MachinesEdgesTest {
    private static final Checks checks = new Checks("MachinesEdgesTest");
    private static final int ANY = 10000;
    /** No machine has one of these numbers in scripts that place at most 3. */
    private static final int[] NO_MACHINE = {3, 59, 60, -2, Integer.MIN_VALUE, Integer.MAX_VALUE};

    public static void main(String[] args) {
        placeInRanges();
        placeUsesItsLeastAndGreatest();
        placeFitsNowhere();
        placeUpToSixty();
        placeCountsWhatIsPlacedNow();
        placeArgumentComesFirst();
        takeOutReturnsItsRack();
        takeOutFreesItsSlotsOnly();
        takeOutFreesItsLoads();
        takeOutOfTheLastSlotOfAll();
        takeOutOfAllSixty();
        takeOutRefused();
        cordInRanges();
        cordReturnsTheWayBefore();
        cordLeavesItWhereItIs();
        cordUpToTheLimitOfItsRack();
        cordAboveTheLimitOfItsRack();
        cordUpToTheLimitOfAFeed();
        cordAboveTheLimitOfAFeed();
        cordAtFullLimits();
        cordOfNoPower();
        cordOfAFailedFeed();
        cordTakenOffGivesPowerBack();
        cordRefused();
        cordExceptionsInTheirOrder();
        packOfNothing();
        packOfWhatIsPacked();
        packByMoreSlotsFirst();
        packByMorePowerThen();
        packByLowerNumberThen();
        packByNothingElse();
        packCountsAnotherRackOrSlot();
        packIntoEmptyRacks();
        packFirstFitGoesBack();
        packWithinEachLimit();
        packRefusedByEachLimit();
        packRefusedBySlots();
        packAsIfNoneWasDark();
        packOfSixty();
        packAsNothingIsLeft();
        machinesFrom0To60();
        rackOfEachRack();
        slotOfEachSlot();
        noSuchMachine();
        isDarkOfEachWay();
        machineAtEachSlot();
        machineAtNoSuchRack();
        machineAtNoSuchSlot();
        nextOfNoMachines();
        nextByRacksAndSlots();
        nextBehindTheLastSlotOfAll();
        nextOfSixty();
        nextRefused();
        checks.end();
    }

    private static void oneRack(RackPlanner p) {
        p.addRack(0, 20, ANY, ANY);
    }

    /** Machines 0 and 2 placed, 1 taken out, 3 never there; each rack has a free slot. */
    private static void twoOfThree(RackPlanner p) {
        p.addRack(1, 3, 100, 100);
        p.addRack(2, 4, 100, 100);
        p.place(2, 30, 10, 0);
        p.place(1, 5, 5, 1);
        p.place(3, 20, 20, 2);
        p.takeOut(1);
    }

    /** "slots: 1 to 6", "power: 0 to 2000", "weight: 0 to 1000", "cords: 0 to 2". */
    private static void placeInRanges() {
        checks.ranges("place", MachinesEdgesTest::oneRack, (p, a) -> p.place(a[0], a[1], a[2], a[3]), new int[] {2, 100, 100, 1},
            new int[] {1, 0, 0, 0}, new int[] {6, 2000, 1000, 2});
    }

    private static void placeUsesItsLeastAndGreatest() {
        RackPlanner p = new RackPlanner();
        oneRack(p);
        checks.due("place of the least", p.place(1, 0, 0, 0), 0);
        checks.due("weightOf(0)", p.weightOf(0), 0);
        checks.due("worstOf(0, 0)", p.worstOf(0, 0), 0);
        checks.due("gap(0)", p.gap(0), 19);
        checks.due("place of the greatest", p.place(6, 2000, 1000, 2), 1);
        checks.due("weightOf(0)", p.weightOf(0), 1000);
        checks.due("worstOf(0, 0)", p.worstOf(0, 0), 2000);
        checks.due("worstOf(0, 1)", p.worstOf(0, 1), 2000);
        checks.due("heatOf(0)", p.heatOf(0), 2000);
        checks.due("gap(0)", p.gap(0), 13);
        checks.due("machineAt(0, 6)", p.machineAt(0, 6), 1);
        checks.due("machineAt(0, 7)", p.machineAt(0, 7), -1);
    }

    /** "if it fits nowhere": no racks, no slots, or one limit of each kind that is at its end. */
    private static void placeFitsNowhere() {
        checks.state("place without racks", p -> { }, p -> p.place(1, 0, 0, 0));
        Checks.Script full = p -> {
            p.addRack(0, 1, ANY, ANY);
            p.addRack(1, 2, ANY, ANY);
            p.place(2, 0, 0, 0);
            p.place(1, 0, 0, 0);
        };
        checks.state("place as no slot is free", full, p -> p.place(1, 0, 0, 0));
        for (int limit = 0; limit < Limits.KINDS; limit++) {
            int kind = limit;
            Checks.Script limited = p -> {
                Limits.racks(p, kind, 50);
                Limits.place(p, kind, 50);
                Limits.place(p, kind, 50);
            };
            checks.state("place of 1 at " + Limits.name(kind), limited, p -> Limits.place(p, kind, 1));
            checks.answers("place of 0 at " + Limits.name(kind), limited, p -> Limits.place(p, kind, 0));
        }
    }

    /** "or 60 machines are placed": the sixtieth is, the next is not, though it would fit. */
    private static void placeUpToSixty() {
        Checks.Script some = p -> {
            for (int rack = 0; rack < 4; rack++) {
                p.addRack(rack, 20, 0, 0);
            }
            for (int i = 0; i < 59; i++) {
                p.place(1, 0, 0, 0);
            }
        };
        Checks.Script sixty = p -> {
            some.run(p);
            p.place(1, 0, 0, 0);
        };
        RackPlanner p = new RackPlanner();
        some.run(p);
        checks.due("the sixtieth", p.place(1, 0, 0, 2), 59);
        checks.due("racksFor", p.racksFor(1, 0, 0, 0), 8);
        checks.state("one more", () -> p.place(1, 0, 0, 0));
        checks.due("machines()", p.machines(), 60);
        checks.state("one more than sixty", sixty, q -> q.place(1, 0, 0, 0));
    }

    /** "60 machines are placed": not those that were taken out. */
    private static void placeCountsWhatIsPlacedNow() {
        RackPlanner p = new RackPlanner();
        for (int rack = 0; rack < 4; rack++) {
            p.addRack(rack, 20, 0, 0);
        }
        for (int i = 0; i < 60; i++) {
            p.place(1, 0, 0, 0);
        }
        p.takeOut(59);
        checks.due("place as the last is out", p.place(1, 0, 0, 0), 60);
        checks.state("place as sixty are in", () -> p.place(1, 0, 0, 0));
        p.takeOut(0);
        checks.due("place as the first is out", p.place(1, 0, 0, 0), 61);
        checks.at(p, 61, 0, 0);
        p.pack();
        checks.state("place as sixty are packed", () -> p.place(1, 0, 0, 0));
    }

    /** "of several exceptions it is the first one of the throws clause". */
    private static void placeArgumentComesFirst() {
        int[][] wrong = {{0, 1, 1, 1}, {7, 1, 1, 1}, {1, -1, 1, 1}, {1, 2001, 1, 1}, {1, 1, -1, 1}, {1, 1, 1001, 1}, {1, 1, 1, -1},
            {1, 1, 1, 3}};
        Checks.Script sixty = p -> {
            for (int rack = 0; rack < 3; rack++) {
                p.addRack(rack, 20, 0, 0);
            }
            for (int i = 0; i < 60; i++) {
                p.place(1, 0, 0, 0);
            }
        };
        for (int[] w : wrong) {
            checks.argument("place without racks", p -> { }, p -> p.place(w[0], w[1], w[2], w[3]));
            checks.argument("place behind sixty", sixty, p -> p.place(w[0], w[1], w[2], w[3]));
        }
    }

    /** "Returns the rack in which it was": the first and the last one, too. */
    private static void takeOutReturnsItsRack() {
        RackPlanner p = new RackPlanner();
        for (int rack = 0; rack < 8; rack++) {
            p.addRack(rack % 4, 1, 0, 0);
            p.place(1, 0, 0, 0);
        }
        for (int machine = 7; machine >= 0; machine--) {
            checks.due("takeOut(" + machine + ")", p.takeOut(machine), machine);
        }
    }

    private static void takeOutFreesItsSlotsOnly() {
        RackPlanner p = new RackPlanner();
        p.addRack(0, 8, 0, 0);
        p.place(1, 0, 0, 0);
        p.place(6, 0, 0, 0);
        p.place(1, 0, 0, 0);
        p.takeOut(1);
        checks.due("machineAt(0, 0)", p.machineAt(0, 0), 0);
        for (int slot = 1; slot < 7; slot++) {
            checks.due("machineAt(0, " + slot + ")", p.machineAt(0, slot), -1);
        }
        checks.due("machineAt(0, 7)", p.machineAt(0, 7), 2);
        checks.due("gap(0)", p.gap(0), 6);
    }

    private static void takeOutFreesItsLoads() {
        for (int cords = 0; cords < 3; cords++) {
            RackPlanner p = new RackPlanner();
            p.addRack(1, 2, 10, 10);
            p.setRow(1, 10, 10);
            p.setFeed(0, 10);
            p.setFeed(1, 10);
            p.place(1, 10, 10, cords);
            p.switchFeed(0);
            p.takeOut(0);
            checks.due("weightOf(0)", p.weightOf(0), 0);
            checks.due("worstOf(0, 0)", p.worstOf(0, 0), 0);
            checks.due("worstOf(0, 1)", p.worstOf(0, 1), 0);
            checks.due("powerOf(0, 1)", p.powerOf(0, 1), 0);
            checks.due("heatOf(1)", p.heatOf(1), 0);
            checks.due("machines()", p.machines(), 0);
            checks.due("next(-1)", p.next(-1), -1);
            checks.due("switchFeed(1)", p.switchFeed(1), 0);
            p.setRow(1, 0, 0);
            checks.due("setFeed(0, 0)", p.setFeed(0, 0), 10);
            checks.due("setFeed(1, 0)", p.setFeed(1, 0), 10);
        }
    }

    private static void takeOutOfTheLastSlotOfAll() {
        RackPlanner p = new RackPlanner();
        for (int rack = 0; rack < 8; rack++) {
            p.addRack(0, rack < 7 ? 1 : 20, 0, 0);
        }
        for (int slots : new int[] {6, 6, 2, 6}) {
            p.place(slots, 0, 0, 0);
        }
        checks.at(p, 3, 7, 14);
        checks.due("takeOut(3)", p.takeOut(3), 7);
        checks.due("gap(7)", p.gap(7), 6);
        checks.due("machineAt(7, 19)", p.machineAt(7, 19), -1);
        checks.due("machineAt(7, 13)", p.machineAt(7, 13), 2);
        checks.due("place there again", p.place(6, 0, 0, 0), 4);
        checks.at(p, 4, 7, 14);
    }

    private static void takeOutOfAllSixty() {
        RackPlanner p = new RackPlanner();
        for (int rack = 0; rack < 3; rack++) {
            p.addRack(rack, 20, 0, 0);
        }
        for (int i = 0; i < 60; i++) {
            p.place(1, 0, 0, 0);
        }
        for (int i = 0; i < 60; i++) {
            checks.due("takeOut", p.takeOut(i), i / 20);
            checks.due("machines()", p.machines(), 59 - i);
        }
        checks.index("takeOut as none is left", () -> p.takeOut(59));
        checks.due("roomFor", p.roomFor(1, 0, 0, 0), 60);
    }

    /** "if there is no such machine, or it was taken out"; -1 is no machine here. */
    private static void takeOutRefused() {
        for (int machine : NO_MACHINE) {
            checks.index("takeOut(" + machine + ")", MachinesEdgesTest::twoOfThree, p -> p.takeOut(machine));
        }
        checks.index("takeOut(-1)", MachinesEdgesTest::twoOfThree, p -> p.takeOut(-1));
        checks.index("takeOut of what was taken out", MachinesEdgesTest::twoOfThree, p -> p.takeOut(1));
        checks.index("takeOut without machines", MachinesEdgesTest::oneRack, p -> p.takeOut(0));
    }

    /** "cords: 0 to 2". */
    private static void cordInRanges() {
        checks.ranges("cord", MachinesEdgesTest::twoOfThree, (p, a) -> p.cord(2, a[0]), new int[] {1}, new int[] {0}, new int[] {2});
    }

    /** "Returns the way in which it was corded before": each way behind each way. */
    private static void cordReturnsTheWayBefore() {
        int[][] worst = {{9, 0}, {0, 9}, {9, 9}};
        for (int before = 0; before < 3; before++) {
            for (int then = 0; then < 3; then++) {
                RackPlanner p = new RackPlanner();
                p.addRack(0, 1, ANY, ANY);
                p.place(1, 9, 0, before);
                checks.due("cord(0, " + then + ")", p.cord(0, then), before);
                checks.due("worstOf(0, 0)", p.worstOf(0, 0), worst[then][0]);
                checks.due("worstOf(0, 1)", p.worstOf(0, 1), worst[then][1]);
                checks.due("cord(0, " + then + ") again", p.cord(0, then), then);
            }
        }
    }

    /** "Gives a machine other cords, where it is": though a lower slot and an earlier rack are free. */
    private static void cordLeavesItWhereItIs() {
        RackPlanner p = new RackPlanner();
        p.addRack(0, 2, 100, 100);
        p.addRack(0, 3, 100, 100);
        p.place(2, 10, 10, 0);
        p.place(1, 10, 10, 0);
        p.place(2, 10, 10, 0);
        p.takeOut(0);
        p.takeOut(1);
        p.cord(2, 2);
        checks.at(p, 2, 1, 1);
        checks.due("weightOf(1)", p.weightOf(1), 10);
        checks.due("heatOf(0)", p.heatOf(0), 10);
        checks.due("gap(0)", p.gap(0), 2);
    }

    /** Rack 0 of a limit of 100 with `other` at the feed to which machine 1 of power 60 is to be corded, too. */
    private static Checks.Script crowdedRack(int feed, int other) {
        return p -> {
            p.addRack(0, 4, 0, 100);
            p.addRack(0, 4, 0, 100);
            p.place(1, other, 0, feed);
            p.place(1, 60, 0, 1 - feed);
        };
    }

    /** "if the worst of its rack ... on a feed would be above its limit": not as it is just at it. */
    private static void cordUpToTheLimitOfItsRack() {
        for (int feed : new int[] {0, 1}) {
            for (int cords : new int[] {feed, 2}) {
                RackPlanner p = new RackPlanner();
                crowdedRack(feed, 40).run(p);
                checks.due("cord up to the limit", p.cord(1, cords), 1 - feed);
                checks.due("worstOf", p.worstOf(0, feed), 100);
                checks.due("worstOf the other", p.worstOf(0, 1 - feed), cords == 2 ? 60 : 0);
            }
        }
    }

    private static void cordAboveTheLimitOfItsRack() {
        for (int feed : new int[] {0, 1}) {
            checks.state("cord 1 above the limit", crowdedRack(feed, 41), p -> p.cord(1, feed));
            checks.state("two cords 1 above the limit", crowdedRack(feed, 41), p -> p.cord(1, 2));
            checks.answers("the cord that it has", crowdedRack(feed, 41), p -> p.cord(1, 1 - feed));
        }
    }

    /** As crowdedRack, but the machines are in two racks of two rows, and the feed's limit is 100. */
    private static Checks.Script crowdedFeed(int feed, int other) {
        return p -> {
            p.addRack(0, 1, 0, ANY);
            p.addRack(2, 1, 0, ANY);
            p.setFeed(feed, 100);
            p.place(1, other, 0, feed);
            p.place(1, 60, 0, 1 - feed);
        };
    }

    /** "or of all racks, on a feed would be above its limit": not as it is just at it. */
    private static void cordUpToTheLimitOfAFeed() {
        for (int feed : new int[] {0, 1}) {
            for (int cords : new int[] {feed, 2}) {
                RackPlanner p = new RackPlanner();
                crowdedFeed(feed, 40).run(p);
                checks.due("cord up to the limit", p.cord(1, cords), 1 - feed);
                checks.due("worstOf", p.worstOf(1, feed), 60);
                checks.state("place at the limit", () -> p.place(1, 1, 0, feed));
            }
        }
    }

    private static void cordAboveTheLimitOfAFeed() {
        for (int feed : new int[] {0, 1}) {
            checks.state("cord 1 above the limit", crowdedFeed(feed, 41), p -> p.cord(1, feed));
            checks.state("two cords 1 above the limit", crowdedFeed(feed, 41), p -> p.cord(1, 2));
            checks.answers("the cord that it has", crowdedFeed(feed, 41), p -> p.cord(1, 1 - feed));
        }
    }

    /** What a machine takes already is not counted again: at the limits its own cords, and one of two, are answered. */
    private static void cordAtFullLimits() {
        Checks.Script full = p -> {
            p.addRack(0, 1, 0, 60);
            p.place(1, 60, 0, 2);
            p.setFeed(0, 60);
            p.setFeed(1, 60);
            p.setRow(0, 60, 0);
        };
        for (int cords = 0; cords < 3; cords++) {
            RackPlanner p = new RackPlanner();
            full.run(p);
            checks.due("cord(0, " + cords + ")", p.cord(0, cords), 2);
            checks.due("cord(0, 2) back", p.cord(0, 2), cords);
        }
    }

    private static void cordOfNoPower() {
        RackPlanner p = new RackPlanner();
        p.addRack(0, 1, 0, 0);
        p.setFeed(0, 0);
        p.setFeed(1, 0);
        p.place(1, 0, 0, 0);
        for (int cords : new int[] {1, 2, 0, 2, 1, 0}) {
            p.cord(0, cords);
            checks.due("cord behind it", p.cord(0, cords), cords);
        }
    }

    /** The limits of a failed feed hold; and what is corded to it alone is dark. */
    private static void cordOfAFailedFeed() {
        for (int feed : new int[] {0, 1}) {
            Checks.Script failed = p -> {
                crowdedRack(feed, 41).run(p);
                p.switchFeed(feed);
            };
            checks.state("cord 1 above the limit of a failed feed", failed, p -> p.cord(1, feed));
            RackPlanner p = new RackPlanner();
            crowdedRack(feed, 40).run(p);
            p.switchFeed(feed);
            checks.due("isDark(1)", p.isDark(1), false);
            p.cord(1, feed);
            checks.due("isDark(1) at the failed feed", p.isDark(1), true);
            p.cord(1, 2);
            checks.due("isDark(1) of two cords", p.isDark(1), false);
            checks.due("powerOf the feed that stands", p.powerOf(0, 1 - feed), 60);
        }
    }

    private static void cordTakenOffGivesPowerBack() {
        for (int feed : new int[] {0, 1}) {
            RackPlanner p = new RackPlanner();
            p.addRack(0, 2, 0, 60);
            p.setFeed(feed, 60);
            p.place(1, 60, 0, 2);
            checks.due("racksFor", p.racksFor(1, 1, 0, feed), 0);
            p.cord(0, 1 - feed);
            checks.due("racksFor of the rack's limit", p.racksFor(1, 60, 0, feed), 1);
            checks.due("racksFor of the other feed", p.racksFor(1, 1, 0, 1 - feed), 0);
            checks.due("setFeed(feed, 0)", p.setFeed(feed, 0), 60);
        }
    }

    /** "if there is no such machine, or it was taken out", "if cords is out of range". */
    private static void cordRefused() {
        for (int machine : NO_MACHINE) {
            checks.index("cord(" + machine + ", 0)", MachinesEdgesTest::twoOfThree, p -> p.cord(machine, 0));
        }
        checks.index("cord(-1, 0)", MachinesEdgesTest::twoOfThree, p -> p.cord(-1, 0));
        checks.index("cord of what was taken out", MachinesEdgesTest::twoOfThree, p -> p.cord(1, 0));
        checks.argument("cord(0, -1)", MachinesEdgesTest::twoOfThree, p -> p.cord(0, -1));
        checks.argument("cord(2, 3)", MachinesEdgesTest::twoOfThree, p -> p.cord(2, 3));
    }

    /** "of several exceptions it is the first one of the throws clause". */
    private static void cordExceptionsInTheirOrder() {
        for (int cords : new int[] {-1, 3, Integer.MIN_VALUE, Integer.MAX_VALUE}) {
            checks.index("no such machine, cords " + cords, MachinesEdgesTest::twoOfThree, p -> p.cord(3, cords));
            checks.index("machine -1, cords " + cords, MachinesEdgesTest::twoOfThree, p -> p.cord(-1, cords));
            checks.index("taken out, cords " + cords, MachinesEdgesTest::twoOfThree, p -> p.cord(1, cords));
            checks.argument("above the limits, cords " + cords, crowdedRack(0, 41), p -> p.cord(1, cords));
        }
    }

    /** Without machines each is where it was. */
    private static void packOfNothing() {
        RackPlanner p = new RackPlanner();
        checks.due("pack() without racks", p.pack(), 0);
        p.addRack(0, 3, 0, 0);
        checks.due("pack() of an empty rack", p.pack(), 0);
        p.place(3, 0, 0, 0);
        p.takeOut(0);
        checks.due("pack() as all are out", p.pack(), 0);
        checks.due("gap(0)", p.gap(0), 3);
        checks.due("place", p.place(3, 0, 0, 0), 1);
    }

    private static void packOfWhatIsPacked() {
        RackPlanner p = new RackPlanner();
        p.addRack(0, 3, 0, 0);
        p.place(3, 0, 0, 0);
        checks.due("pack() of one machine", p.pack(), 0);
        checks.at(p, 0, 0, 0);
        checks.due("machineAt(0, 2)", p.machineAt(0, 2), 0);
        p.addRack(0, 3, 0, 0);
        p.place(2, 0, 0, 0);
        p.place(1, 0, 0, 0);
        checks.due("pack() of machines in their order", p.pack(), 0);
        checks.at(p, 2, 1, 2);
    }

    /** "those with more slots first": though they have less power and higher numbers. */
    private static void packByMoreSlotsFirst() {
        RackPlanner p = new RackPlanner();
        p.addRack(0, 20, ANY, ANY);
        p.addRack(1, 1, ANY, ANY);
        for (int slots = 1; slots <= 6; slots++) {
            p.place(slots == 6 ? 5 : slots, 60 - slots, 60 - slots, slots % 3);
        }
        checks.due("pack()", p.pack(), 6);
        checks.at(p, 4, 0, 0);
        checks.at(p, 5, 0, 5);
        checks.at(p, 3, 0, 10);
        checks.at(p, 2, 0, 14);
        checks.at(p, 1, 0, 17);
        checks.at(p, 0, 0, 19);
    }

    /** "of as many slots those with more power": 1 more is more, and 0 is least. */
    private static void packByMorePowerThen() {
        RackPlanner p = new RackPlanner();
        p.addRack(0, 4, ANY, ANY);
        p.place(1, 0, 50, 2);
        p.place(1, 1999, 20, 0);
        p.place(1, 2000, 10, 1);
        p.place(1, 1, 70, 2);
        checks.due("pack()", p.pack(), 3);
        checks.at(p, 2, 0, 0);
        checks.at(p, 1, 0, 1);
        checks.at(p, 3, 0, 2);
        checks.at(p, 0, 0, 3);
    }

    /** "of as much power those with the lower number": wherever they were. */
    private static void packByLowerNumberThen() {
        RackPlanner p = new RackPlanner();
        p.addRack(0, 5, ANY, ANY);
        for (int i = 0; i < 5; i++) {
            p.place(1, 7, 0, 0);
        }
        p.takeOut(0);
        p.takeOut(2);
        p.place(1, 7, 0, 0);
        p.place(1, 7, 0, 0);
        checks.at(p, 5, 0, 0);
        checks.at(p, 6, 0, 2);
        checks.due("pack()", p.pack(), 5);
        int[] order = {1, 3, 4, 5, 6};
        for (int slot = 0; slot < 5; slot++) {
            checks.at(p, order[slot], 0, slot);
        }
    }

    /** Weight and cords are no order: as many slots and as much power stay by number. */
    private static void packByNothingElse() {
        RackPlanner p = new RackPlanner();
        p.addRack(0, 4, ANY, ANY);
        p.place(1, 5, 0, 2);
        p.place(1, 5, 1000, 0);
        p.place(1, 5, 10, 1);
        p.place(1, 5, 20, 2);
        checks.due("pack()", p.pack(), 0);
        for (int slot = 0; slot < 4; slot++) {
            checks.at(p, slot, 0, slot);
        }
    }

    /** "how many machines are in another rack, or at another slot, than before". */
    private static void packCountsAnotherRackOrSlot() {
        RackPlanner slot = new RackPlanner();
        slot.addRack(0, 3, 0, 0);
        slot.place(1, 0, 0, 0);
        slot.place(2, 0, 0, 0);
        slot.takeOut(0);
        checks.due("pack() to another slot of its rack", slot.pack(), 1);
        checks.at(slot, 1, 0, 0);
        RackPlanner rack = new RackPlanner();
        rack.addRack(0, 2, 0, 0);
        rack.addRack(0, 2, 0, 0);
        rack.place(2, 0, 0, 0);
        rack.place(2, 0, 0, 0);
        rack.takeOut(0);
        checks.due("pack() to the same slot of another rack", rack.pack(), 1);
        checks.at(rack, 1, 0, 0);
        RackPlanner both = new RackPlanner();
        both.addRack(0, 2, 0, 0);
        both.addRack(0, 3, 0, 0);
        both.place(2, 0, 0, 0);
        both.place(1, 0, 0, 0);
        both.place(2, 0, 0, 0);
        both.takeOut(0);
        checks.due("pack() to another slot of another rack, by one of two", both.pack(), 1);
        checks.at(both, 2, 0, 0);
        checks.at(both, 1, 1, 0);
    }

    /** "into empty racks": where a machine was does not hold it back, nor what it weighed there. */
    private static void packIntoEmptyRacks() {
        RackPlanner p = new RackPlanner();
        p.addRack(0, 6, 10, 10);
        p.setRow(0, 10, 10);
        p.setFeed(0, 10);
        p.setFeed(1, 10);
        p.place(1, 0, 0, 0);
        p.place(4, 10, 10, 2);
        p.takeOut(0);
        checks.due("pack() into slots that it had", p.pack(), 1);
        checks.at(p, 1, 0, 0);
        checks.due("machineAt(0, 3)", p.machineAt(0, 3), 1);
        checks.due("machineAt(0, 4)", p.machineAt(0, 4), -1);
        checks.due("weightOf(0)", p.weightOf(0), 10);
        checks.due("worstOf(0, 1)", p.worstOf(0, 1), 10);
    }

    /** "first fit": a later machine fills what an earlier one left in an earlier rack. */
    private static void packFirstFitGoesBack() {
        RackPlanner p = new RackPlanner();
        p.addRack(0, 5, 0, 0);
        p.addRack(1, 9, 0, 0);
        p.place(1, 0, 0, 0);
        p.place(3, 0, 0, 0);
        p.place(4, 0, 0, 0);
        p.place(1, 0, 0, 0);
        checks.due("pack()", p.pack(), 4);
        checks.at(p, 2, 0, 0);
        checks.at(p, 1, 1, 0);
        checks.at(p, 0, 0, 4);
        checks.at(p, 3, 1, 3);
    }

    /** A machine that is above a limit of the first rack by 1 is packed into the second; at the limit into the first. */
    private static void packWithinEachLimit() {
        for (int kind = 0; kind < Limits.KINDS; kind++) {
            if (Limits.isOfAll(kind)) {
                continue;
            }
            for (int more = 0; more < 2; more++) {
                RackPlanner p = new RackPlanner();
                Limits.racks(p, kind, 50);
                Limits.place(p, kind, 20);
                Limits.placeWide(p, kind, 30 + more, 2);
                checks.due("pack(), " + Limits.name(kind) + " and " + more, p.pack(), 2);
                checks.at(p, 1, 0, 0);
                checks.at(p, 0, more, more == 0 ? 2 : 0);
            }
        }
    }

    /** "If one of them fits nowhere by that, nothing changes", "-1 if nothing changed as one fits nowhere". */
    private static void packRefusedByEachLimit() {
        for (int limit = 0; limit < Limits.KINDS; limit++) {
            int kind = limit;
            if (Limits.isOfAll(kind)) {
                continue;
            }
            Checks.Script crossed = p -> {
                Limits.racks(p, kind, 100);
                Limits.placeWide(p, kind, 60, 1);
                Limits.placeWide(p, kind, 40, 3);
                Limits.placeWide(p, kind, 50, 4);
                Limits.placeWide(p, kind, 50, 2);
            };
            RackPlanner p = new RackPlanner();
            crossed.run(p);
            checks.at(p, 1, 0, 1);
            checks.at(p, 3, 1, 4);
            checks.due("pack(), " + Limits.name(kind), p.pack(), -1);
            p.takeOut(0);
            checks.due("pack() as what fits nowhere is out, " + Limits.name(kind), p.pack(), 3);
            packChangesNothing(crossed);
        }
    }

    private static void packChangesNothing(Checks.Script before) {
        checks.changesNothing("pack()", before, p -> {
            checks.due("pack()", p.pack(), -1);
            checks.due("pack() again", p.pack(), -1);
        });
    }

    private static void packRefusedBySlots() {
        Checks.Script crossed = p -> {
            p.addRack(0, 4, 0, 0);
            p.addRack(0, 5, 0, 0);
            for (int slots : new int[] {2, 2, 3, 2}) {
                p.place(slots, 0, 0, 0);
            }
        };
        packChangesNothing(crossed);
        RackPlanner q = new RackPlanner();
        crossed.run(q);
        q.pack();
        q.addRack(3, 2, 0, 0);
        checks.due("pack() with one rack more", q.pack(), 4);
        checks.at(q, 2, 0, 0);
        checks.at(q, 0, 1, 0);
        checks.at(q, 1, 1, 2);
        checks.at(q, 3, 2, 0);
    }

    /** "the heat of the row (with all machines, as if none was dark)", "as if the other feed had failed". */
    private static void packAsIfNoneWasDark() {
        for (int feed : new int[] {0, 1}) {
            RackPlanner p = new RackPlanner();
            p.addRack(0, 3, 0, 50);
            p.addRack(1, 3, 0, 50);
            p.setRow(0, 50, 0);
            p.place(1, 20, 0, feed);
            p.place(2, 31, 0, feed);
            p.switchFeed(0);
            p.switchFeed(1);
            checks.due("pack() of dark machines", p.pack(), 2);
            checks.at(p, 1, 0, 0);
            checks.at(p, 0, 1, 0);
            checks.due("hasFailed(0)", p.hasFailed(0), true);
            checks.due("isDark(0)", p.isDark(0), true);
        }
    }

    private static void packOfSixty() {
        RackPlanner p = new RackPlanner();
        for (int rack = 0; rack < 3; rack++) {
            p.addRack(rack, 20, ANY, ANY);
        }
        for (int i = 0; i < 60; i++) {
            p.place(1, i, 0, i % 3);
        }
        checks.due("pack()", p.pack(), 60);
        for (int i = 0; i < 60; i++) {
            checks.at(p, i, (59 - i) / 20, (59 - i) % 20);
        }
        checks.due("pack() again", p.pack(), 0);
        checks.due("machines()", p.machines(), 60);
    }

    /** Limits that the machines use up to the last bear the same machines packed. */
    private static void packAsNothingIsLeft() {
        RackPlanner p = new RackPlanner();
        p.addRack(0, 4, 30, 30);
        p.addRack(0, 4, 30, 30);
        p.place(1, 10, 10, 2);
        p.place(3, 20, 20, 2);
        p.place(4, 30, 30, 2);
        p.setRow(0, 60, 60);
        p.setFeed(0, 60);
        p.setFeed(1, 60);
        checks.due("pack()", p.pack(), 3);
        checks.at(p, 2, 0, 0);
        checks.at(p, 1, 1, 0);
        checks.at(p, 0, 1, 3);
        checks.state("place behind it", () -> p.place(1, 0, 0, 0));
        checks.due("pack() again", p.pack(), 0);
    }

    /** "Returns how many machines are placed." */
    private static void machinesFrom0To60() {
        RackPlanner p = new RackPlanner();
        for (int rack = 0; rack < 3; rack++) {
            p.addRack(rack, 20, 0, 0);
        }
        for (int i = 0; i < 60; i++) {
            checks.due("machines()", p.machines(), i);
            checks.state("place of weight", () -> p.place(1, 0, 1, 0));
            checks.due("machines() behind what was refused", p.machines(), i);
            p.place(1, 0, 0, 0);
        }
        checks.due("machines()", p.machines(), 60);
        p.takeOut(30);
        checks.due("machines() as one is out", p.machines(), 59);
        checks.index("takeOut again", () -> p.takeOut(30));
        checks.due("machines() behind what was refused", p.machines(), 59);
    }

    private static void rackOfEachRack() {
        RackPlanner p = new RackPlanner();
        for (int rack = 0; rack < 8; rack++) {
            p.addRack(3 - rack % 4, 6, 0, 0);
            p.place(6, 0, 0, 0);
        }
        for (int rack = 0; rack < 8; rack++) {
            checks.at(p, rack, rack, 0);
        }
    }

    /** "Returns the lowest slot of a machine": from the bottom to the top. */
    private static void slotOfEachSlot() {
        for (int slots = 1; slots <= 6; slots++) {
            RackPlanner p = new RackPlanner();
            oneRack(p);
            for (int machine = 0; machine < 20 / slots; machine++) {
                p.place(slots, 0, 0, 0);
                checks.at(p, machine, 0, machine * slots);
            }
        }
    }

    /** "if there is no such machine, or it was taken out", of rackOf, slotOf and isDark; -1 is no machine. */
    private static void noSuchMachine() {
        int[] wrong = {3, 59, 60, -1, -2, Integer.MIN_VALUE, Integer.MAX_VALUE, 1};
        for (int machine : wrong) {
            checks.index("rackOf(" + machine + ")", MachinesEdgesTest::twoOfThree, p -> p.rackOf(machine));
            checks.index("slotOf(" + machine + ")", MachinesEdgesTest::twoOfThree, p -> p.slotOf(machine));
            checks.index("isDark(" + machine + ")", MachinesEdgesTest::twoOfThree, p -> p.isDark(machine));
        }
        checks.answers("rackOf(2)", MachinesEdgesTest::twoOfThree, p -> p.rackOf(2));
        checks.answers("slotOf(2)", MachinesEdgesTest::twoOfThree, p -> p.slotOf(2));
        checks.answers("isDark(2)", MachinesEdgesTest::twoOfThree, p -> p.isDark(2));
    }

    /** "Tells whether a machine is dark": of one that is placed at a failed feed, or has no power, too. */
    private static void isDarkOfEachWay() {
        RackPlanner p = new RackPlanner();
        p.addRack(0, 3, 0, 0);
        p.switchFeed(0);
        for (int cords = 0; cords < 3; cords++) {
            p.place(1, 0, 0, cords);
            checks.due("isDark(" + cords + ")", p.isDark(cords), cords == 0);
        }
        p.switchFeed(1);
        checks.due("isDark(2) as both failed", p.isDark(2), true);
        p.switchFeed(0);
        checks.due("isDark(0) as its feed came back", p.isDark(0), false);
        checks.due("isDark(1) as its feed did not", p.isDark(1), true);
        checks.due("isDark(2) as one came back", p.isDark(2), false);
        p.pack();
        checks.due("isDark(1) behind a pack", p.isDark(1), true);
    }

    /** "-1 if it is free": below, between and above machines; else each slot of a machine tells it. */
    private static void machineAtEachSlot() {
        RackPlanner p = new RackPlanner();
        p.addRack(0, 20, 0, 0);
        p.addRack(0, 1, 0, 0);
        for (int slots : new int[] {1, 6, 2, 6, 5}) {
            p.place(slots, 0, 0, 0);
        }
        p.takeOut(0);
        p.takeOut(2);
        int[] due = {-1, 1, 1, 1, 1, 1, 1, -1, -1, 3, 3, 3, 3, 3, 3, 4, 4, 4, 4, 4};
        for (int slot = 0; slot < 20; slot++) {
            checks.due("machineAt(0, " + slot + ")", p.machineAt(0, slot), due[slot]);
        }
        checks.due("machineAt(1, 0)", p.machineAt(1, 0), -1);
        p.takeOut(4);
        checks.due("machineAt(0, 19) as it is out", p.machineAt(0, 19), -1);
        checks.due("machineAt(0, 14) below it", p.machineAt(0, 14), 3);
    }

    /** "if there is no such rack". */
    private static void machineAtNoSuchRack() {
        for (int rack : new int[] {-1, 2, 7, 8, Integer.MIN_VALUE, Integer.MAX_VALUE}) {
            checks.index("machineAt(" + rack + ", 0)", MachinesEdgesTest::twoOfThree, p -> p.machineAt(rack, 0));
            checks.index("machineAt(" + rack + ", 20)", MachinesEdgesTest::twoOfThree, p -> p.machineAt(rack, 20));
        }
        RackPlanner p = new RackPlanner();
        for (int rack = 0; rack < 8; rack++) {
            p.addRack(0, 20, 0, 0);
        }
        checks.due("machineAt(7, 19)", p.machineAt(7, 19), -1);
        checks.index("machineAt(8, 0) behind eight racks", () -> p.machineAt(8, 0));
        checks.index("machineAt(7, 20)", () -> p.machineAt(7, 20));
    }

    /** "no such slot in it": of the rack that is asked for, not of a wider one. */
    private static void machineAtNoSuchSlot() {
        for (int slot : new int[] {-1, 3, 4, 19, 20, Integer.MIN_VALUE, Integer.MAX_VALUE}) {
            checks.index("machineAt(0, " + slot + ")", MachinesEdgesTest::twoOfThree, p -> p.machineAt(0, slot));
        }
        checks.answers("machineAt(0, 2)", MachinesEdgesTest::twoOfThree, p -> p.machineAt(0, 2));
        checks.answers("machineAt(1, 3)", MachinesEdgesTest::twoOfThree, p -> p.machineAt(1, 3));
        checks.index("machineAt(1, 4)", MachinesEdgesTest::twoOfThree, p -> p.machineAt(1, 4));
    }

    /** "-1 behind the last one": at the beginning, as there is none. */
    private static void nextOfNoMachines() {
        RackPlanner p = new RackPlanner();
        checks.due("next(-1) without racks", p.next(-1), -1);
        p.addRack(0, 3, 0, 0);
        checks.due("next(-1) of an empty rack", p.next(-1), -1);
        p.place(3, 0, 0, 0);
        checks.due("next(-1) of one machine", p.next(-1), 0);
        checks.due("next(0) of one machine", p.next(0), -1);
        p.takeOut(0);
        checks.due("next(-1) as all are out", p.next(-1), -1);
    }

    /** "by rising racks and slots": not by number, past free slots and empty racks. */
    private static void nextByRacksAndSlots() {
        RackPlanner p = new RackPlanner();
        for (int slots : new int[] {2, 6, 1, 3}) {
            p.addRack(3, slots, 0, 0);
        }
        for (int slots : new int[] {6, 2, 2, 1, 1}) {
            p.place(slots, 0, 0, 0);
        }
        p.takeOut(0);
        p.takeOut(3);
        p.place(1, 0, 0, 0);
        p.place(3, 0, 0, 0);
        p.place(1, 0, 0, 0);
        p.takeOut(5);
        walk(p, 1, 6, 7, 2, 4);
        p.takeOut(7);
        walk(p, 1, 6, 2, 4);
        p.takeOut(1);
        p.switchFeed(0);
        walk(p, 6, 2, 4);
    }

    private static void walk(RackPlanner p, int... due) {
        int machine = -1;
        for (int i = 0; i < due.length; i++) {
            int behind = p.next(machine);
            checks.due("next(" + machine + ")", behind, due[i]);
            machine = due[i];
        }
        checks.due("next(" + machine + ") behind the last", p.next(machine), -1);
    }

    private static void nextBehindTheLastSlotOfAll() {
        RackPlanner p = new RackPlanner();
        for (int rack = 0; rack < 8; rack++) {
            p.addRack(0, rack < 7 ? 1 : 20, 0, 0);
        }
        for (int slots : new int[] {6, 6, 6, 2}) {
            p.place(slots, 0, 0, 0);
        }
        checks.at(p, 3, 7, 18);
        walk(p, 0, 1, 2, 3);
        p.place(1, 0, 0, 0);
        walk(p, 4, 0, 1, 2, 3);
    }

    private static void nextOfSixty() {
        RackPlanner p = new RackPlanner();
        for (int rack = 0; rack < 3; rack++) {
            p.addRack(rack, 20, 0, 0);
        }
        for (int i = 0; i < 60; i++) {
            p.place(1, 0, 0, 0);
        }
        int[] all = new int[60];
        for (int i = 0; i < 60; i++) {
            all[i] = i;
        }
        walk(p, all);
    }

    /** "if machine is not -1, and there is no such machine, or it was taken out". */
    private static void nextRefused() {
        for (int machine : NO_MACHINE) {
            checks.index("next(" + machine + ")", MachinesEdgesTest::twoOfThree, p -> p.next(machine));
        }
        checks.index("next of what was taken out", MachinesEdgesTest::twoOfThree, p -> p.next(1));
        checks.index("next(0) without racks", p -> { }, p -> p.next(0));
        checks.index("next(-2) without racks", p -> { }, p -> p.next(-2));
        checks.answers("next(-1)", MachinesEdgesTest::twoOfThree, p -> p.next(-1));
    }
}
