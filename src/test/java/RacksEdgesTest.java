/** The sentences of the promises 1 to 7 that name an edge, one by one. */
public final class RacksEdgesTest {
    private static final Checks checks = new Checks("RacksEdgesTest");
    private static final int ANY = 10000;
    private static final Checks.Script NOTHING = p -> { };

    public static void main(String[] args) {
        newObjectHasNoRacks();
        newObjectHasNoMachines();
        newObjectHasFeedsThatStand();
        addRackInRanges();
        addRackUsesItsLeastAndGreatest();
        addRackReturnsNumbers0To7();
        addRackRefusesTheNinth();
        addRackRefusedGivesNoNumber();
        addRackLeavesMachinesWhereTheyAre();
        setRowInRanges();
        setRowDownToItsMachines();
        setRowRefusesBelowItsMachines();
        setRowRefusedKeepsBothLimits();
        setRowArgumentComesFirst();
        setRowOfNoMachines();
        setRowOfMachinesOfNothing();
        setRowOfDarkMachines();
        setRowOfOneRowOnly();
        setFeedInRanges();
        setFeedReturnsTheLimitBefore();
        setFeedDownToTheWorst();
        setFeedRefusesBelowTheWorst();
        setFeedOfAFailedFeed();
        setFeedArgumentComesFirst();
        setFeedOfNothing();
        switchFeedOfNoMachines();
        switchFeedCountsAllThatAreDarkThen();
        switchFeedOfSixty();
        switchFeedRefused();
        hasFailedOfEachFeed();
        racksFrom0To8();
        checks.end();
    }

    /** "Begins without racks." */
    private static void newObjectHasNoRacks() {
        RackPlanner p = new RackPlanner();
        checks.due("racks()", p.racks(), 0);
        for (int rack : new int[] {0, 1, 7, 8, -1}) {
            checks.index("machineAt", NOTHING, q -> q.machineAt(rack, 0));
            checks.index("powerOf", NOTHING, q -> q.powerOf(rack, 0));
            checks.index("worstOf", NOTHING, q -> q.worstOf(rack, 0));
            checks.index("weightOf", NOTHING, q -> q.weightOf(rack));
            checks.index("gap", NOTHING, q -> q.gap(rack));
        }
        checks.state("place", NOTHING, q -> q.place(1, 0, 0, 0));
        checks.due("racksFor", p.racksFor(1, 0, 0, 0), 0);
        checks.due("roomFor", p.roomFor(1, 0, 0, 0), 0);
        checks.due("roomByCounting", p.roomByCounting(1, 0, 0, 0), 0);
        checks.due("the first rack", p.addRack(0, 1, 0, 0), 0);
    }

    private static void newObjectHasNoMachines() {
        RackPlanner p = new RackPlanner();
        checks.due("machines()", p.machines(), 0);
        checks.due("next(-1)", p.next(-1), -1);
        checks.due("pack()", p.pack(), 0);
        for (int row = 0; row < 4; row++) {
            checks.due("heatOf(" + row + ")", p.heatOf(row), 0);
        }
        for (int machine : new int[] {0, 1, -2}) {
            checks.index("takeOut", NOTHING, q -> q.takeOut(machine));
            checks.index("cord", NOTHING, q -> q.cord(machine, 0));
            checks.index("rackOf", NOTHING, q -> q.rackOf(machine));
            checks.index("slotOf", NOTHING, q -> q.slotOf(machine));
            checks.index("isDark", NOTHING, q -> q.isDark(machine));
            checks.index("next", NOTHING, q -> q.next(machine));
        }
    }

    private static void newObjectHasFeedsThatStand() {
        RackPlanner p = new RackPlanner();
        checks.due("hasFailed(0)", p.hasFailed(0), false);
        checks.due("hasFailed(1)", p.hasFailed(1), false);
        checks.due("setFeed(0, 5)", p.setFeed(0, 5), 20000);
        checks.due("setFeed(1, 5)", p.setFeed(1, 5), 20000);
        p.switchFeed(0);
        RackPlanner other = new RackPlanner();
        checks.due("hasFailed(0) of another object", other.hasFailed(0), false);
        checks.due("setFeed(0, 5) of another object", other.setFeed(0, 5), 20000);
    }

    /** "row: 0 to 3", "slots: 1 to 20", "weight ... 0 to 10000", "power ... 0 to 10000". */
    private static void addRackInRanges() {
        checks.ranges("addRack", NOTHING, (p, a) -> p.addRack(a[0], a[1], a[2], a[3]), new int[] {1, 5, 100, 100},
            new int[] {0, 1, 0, 0}, new int[] {3, 20, 10000, 10000});
    }

    private static void addRackUsesItsLeastAndGreatest() {
        RackPlanner p = new RackPlanner();
        p.addRack(0, 1, 0, 0);
        checks.due("gap of 1 slot", p.gap(0), 1);
        checks.due("racksFor of nothing", p.racksFor(1, 0, 0, 2), 1);
        checks.due("racksFor of weight 1", p.racksFor(1, 0, 1, 2), 0);
        checks.due("racksFor of power 1", p.racksFor(1, 1, 0, 0), 0);
        RackPlanner q = new RackPlanner();
        q.addRack(3, 20, 10000, 10000);
        checks.due("gap of 20 slots", q.gap(0), 20);
        for (int i = 0; i < 10; i++) {
            q.place(2, 1000, 1000, 2);
        }
        checks.due("weightOf(0)", q.weightOf(0), 10000);
        checks.due("worstOf(0, 0)", q.worstOf(0, 0), 10000);
        checks.due("worstOf(0, 1)", q.worstOf(0, 1), 10000);
        checks.due("gap(0)", q.gap(0), 0);
    }

    /** "Returns its number." */
    private static void addRackReturnsNumbers0To7() {
        RackPlanner p = new RackPlanner();
        for (int rack = 0; rack < 8; rack++) {
            checks.due("addRack", p.addRack(rack % 4, rack + 1, 0, 0), rack);
            checks.due("gap(" + rack + ")", p.gap(rack), rack + 1);
        }
    }

    /** "Throws IllegalStateException if there are 8 racks"; of both exceptions the argument's. */
    private static void addRackRefusesTheNinth() {
        Checks.Script seven = p -> {
            for (int rack = 0; rack < 7; rack++) {
                p.addRack(rack % 4, 2, 5, 5);
            }
        };
        Checks.Script eight = p -> {
            seven.run(p);
            p.addRack(3, 2, 5, 5);
        };
        checks.answers("the eighth rack", seven, p -> p.addRack(3, 20, 5, 5));
        checks.state("the ninth rack", eight, p -> p.addRack(3, 20, 5, 5));
        int[][] wrong = {{4, 2, 5, 5}, {3, 0, 5, 5}, {3, 2, -1, 5}, {3, 2, 5, 10001}};
        for (int[] w : wrong) {
            checks.argument("the ninth rack out of range", eight, p -> p.addRack(w[0], w[1], w[2], w[3]));
        }
    }

    private static void addRackRefusedGivesNoNumber() {
        RackPlanner p = new RackPlanner();
        checks.argument("addRack of 21 slots", () -> p.addRack(0, 21, 0, 0));
        checks.due("racks()", p.racks(), 0);
        checks.due("the first rack", p.addRack(0, 20, 0, 0), 0);
        checks.argument("addRack of 0 slots", () -> p.addRack(0, 0, 0, 0));
        checks.due("the second rack", p.addRack(0, 20, 0, 0), 1);
    }

    private static void addRackLeavesMachinesWhereTheyAre() {
        RackPlanner p = new RackPlanner();
        p.addRack(0, 1, 10, 10);
        p.place(1, 10, 10, 2);
        checks.state("place as all is full", () -> p.place(1, 0, 0, 0));
        p.addRack(0, 1, 0, 0);
        checks.at(p, 0, 0, 0);
        checks.due("machineAt(1, 0)", p.machineAt(1, 0), -1);
        checks.due("place in the new rack", p.place(1, 0, 0, 0), 1);
        checks.at(p, 1, 1, 0);
    }

    /** "row: 0 to 3", "heat: 0 to 10000", "weight: 0 to 10000". */
    private static void setRowInRanges() {
        checks.ranges("setRow", NOTHING, (p, a) -> p.setRow(a[0], a[1], a[2]), new int[] {1, 100, 100},
            new int[] {0, 0, 0}, new int[] {3, 10000, 10000});
    }

    /** Row 2 with two racks, heat 30 and weight 11; row 0 with more of both. */
    private static void rows(RackPlanner p) {
        p.addRack(2, 2, ANY, ANY);
        p.addRack(0, 2, ANY, ANY);
        p.addRack(2, 9, ANY, ANY);
        p.place(2, 10, 5, 0);
        p.place(2, 1000, 500, 0);
        p.place(2, 20, 6, 1);
    }

    /** "if its machines are above one of them": not as they are just at it. */
    private static void setRowDownToItsMachines() {
        RackPlanner p = new RackPlanner();
        rows(p);
        p.setRow(2, 30, 11);
        checks.due("racksFor of nothing", p.racksFor(1, 0, 0, 0), 4);
        checks.due("racksFor of heat 1", p.racksFor(1, 1, 0, 0), 0);
        checks.due("racksFor of weight 1", p.racksFor(1, 0, 1, 0), 0);
        p.setRow(2, 31, 12);
        checks.due("racksFor of heat 1 and weight 1", p.racksFor(1, 1, 1, 0), 4);
        checks.due("racksFor of heat 2", p.racksFor(1, 2, 0, 0), 0);
        checks.due("racksFor of weight 2", p.racksFor(1, 0, 2, 0), 0);
        p.takeOut(0);
        p.setRow(2, 20, 6);
        p.setRow(2, 10000, 10000);
        checks.due("racksFor of heat and weight", p.racksFor(1, 2000, 1000, 0), 5);
    }

    /** "if its machines are above one of them": of all its racks. */
    private static void setRowRefusesBelowItsMachines() {
        checks.state("heat 1 below", RacksEdgesTest::rows, p -> p.setRow(2, 29, ANY));
        checks.state("weight 1 below", RacksEdgesTest::rows, p -> p.setRow(2, ANY, 10));
        checks.state("heat 1 below, weight at its limit", RacksEdgesTest::rows, p -> p.setRow(2, 29, 11));
        checks.state("weight 1 below, heat at its limit", RacksEdgesTest::rows, p -> p.setRow(2, 30, 10));
        checks.state("both 0", RacksEdgesTest::rows, p -> p.setRow(2, 0, 0));
        RackPlanner p = new RackPlanner();
        p.addRack(1, 1, ANY, ANY);
        p.place(1, 7, 0, 2);
        checks.state("the heat of two cords below", () -> p.setRow(1, 6, 0));
        p.setRow(1, 7, 0);
    }

    /** "nothing has changed": the limit that alone would have been taken stays as it was. */
    private static void setRowRefusedKeepsBothLimits() {
        Checks.Script limited = p -> {
            rows(p);
            p.setRow(2, 50, 21);
        };
        for (int wrong = 0; wrong < 5; wrong++) {
            RackPlanner p = new RackPlanner();
            limited.run(p);
            if (wrong == 0) {
                checks.state("weight below", () -> p.setRow(2, 40, 10));
            } else if (wrong == 1) {
                checks.state("heat below", () -> p.setRow(2, 29, 15));
            } else if (wrong == 2) {
                checks.argument("weight out of range", () -> p.setRow(2, 40, -1));
            } else if (wrong == 3) {
                checks.argument("heat out of range", () -> p.setRow(2, 10001, 15));
            } else {
                checks.argument("weight out of range", () -> p.setRow(2, 60, 10001));
            }
            checks.due("racksFor up to the heat", p.racksFor(1, 20, 0, 0) & 4, 4);
            checks.due("racksFor above the heat", p.racksFor(1, 21, 0, 0) & 4, 0);
            checks.due("racksFor up to the weight", p.racksFor(1, 0, 10, 0) & 4, 4);
            checks.due("racksFor above the weight", p.racksFor(1, 0, 11, 0) & 4, 0);
        }
    }

    /** "of several exceptions it is the first one of the throws clause". */
    private static void setRowArgumentComesFirst() {
        checks.argument("weight -1, heat below", RacksEdgesTest::rows, p -> p.setRow(2, 0, -1));
        checks.argument("weight 10001, heat below", RacksEdgesTest::rows, p -> p.setRow(2, 29, 10001));
        checks.argument("heat -1, weight below", RacksEdgesTest::rows, p -> p.setRow(2, -1, 0));
        checks.argument("heat 10001, weight below", RacksEdgesTest::rows, p -> p.setRow(2, 10001, 10));
    }

    /** Nothing is above a limit of 0 in a row without racks or without machines. */
    private static void setRowOfNoMachines() {
        RackPlanner p = new RackPlanner();
        p.setRow(1, 0, 0);
        p.addRack(1, 3, ANY, ANY);
        checks.due("racksFor of nothing", p.racksFor(1, 0, 0, 0), 1);
        checks.due("racksFor of heat 1", p.racksFor(1, 1, 0, 0), 0);
        checks.due("racksFor of weight 1", p.racksFor(1, 0, 1, 0), 0);
        p.setRow(1, 10000, 10000);
        p.place(1, 5, 5, 0);
        checks.state("heat below", () -> p.setRow(1, 0, 5));
        p.takeOut(0);
        p.setRow(1, 0, 0);
        checks.due("racksFor of heat 1 as all are out", p.racksFor(1, 1, 0, 0), 0);
    }

    private static void setRowOfMachinesOfNothing() {
        RackPlanner p = new RackPlanner();
        p.addRack(1, 3, ANY, ANY);
        p.place(1, 0, 0, 0);
        p.setRow(1, 0, 0);
        p.place(1, 0, 0, 2);
        checks.state("place of weight", () -> p.place(1, 0, 1, 0));
        checks.state("place of heat", () -> p.place(1, 1, 0, 0));
    }

    /** A dark machine's heat counts here as it does where machines are placed. */
    private static void setRowOfDarkMachines() {
        Checks.Script dark = p -> {
            p.addRack(1, 3, ANY, ANY);
            p.place(1, 9, 4, 0);
            p.switchFeed(0);
        };
        checks.state("heat below a dark machine's", dark, p -> p.setRow(1, 8, 4));
        checks.state("weight below a dark machine's", dark, p -> p.setRow(1, 9, 3));
        checks.answers("a dark machine's heat and weight", dark, p -> p.setRow(1, 9, 4));
    }

    /** "Changes the limits of a row": of no other one. */
    private static void setRowOfOneRowOnly() {
        for (int row = 0; row < 4; row++) {
            RackPlanner p = new RackPlanner();
            for (int rack = 0; rack < 4; rack++) {
                p.addRack(rack, 1, ANY, ANY);
            }
            p.setRow(row, 1, 2);
            checks.due("racksFor at both limits", p.racksFor(1, 1, 2, 0), 15);
            checks.due("racksFor above the heat", p.racksFor(1, 2, 2, 0), 15 - (1 << row));
            checks.due("racksFor above the weight", p.racksFor(1, 1, 3, 0), 15 - (1 << row));
        }
    }

    /** "feed: 0 or 1", "power: 0 to 20000". */
    private static void setFeedInRanges() {
        checks.ranges("setFeed", NOTHING, (p, a) -> p.setFeed(a[0], a[1]), new int[] {1, 100}, new int[] {0, 0}, new int[] {1, 20000});
    }

    /** "Returns the limit before": 20000 at first, then what was set; each feed has its own. */
    private static void setFeedReturnsTheLimitBefore() {
        RackPlanner p = new RackPlanner();
        checks.due("setFeed(0, 0)", p.setFeed(0, 0), 20000);
        checks.due("setFeed(0, 20000)", p.setFeed(0, 20000), 0);
        checks.due("setFeed(0, 20000) again", p.setFeed(0, 20000), 20000);
        checks.due("setFeed(1, 7)", p.setFeed(1, 7), 20000);
        checks.due("setFeed(0, 8)", p.setFeed(0, 8), 20000);
        checks.due("setFeed(1, 7) again", p.setFeed(1, 7), 7);
        checks.argument("setFeed(1, -1)", () -> p.setFeed(1, -1));
        checks.argument("setFeed(1, 20001)", () -> p.setFeed(1, 20001));
        checks.due("setFeed(1, 9) behind what was refused", p.setFeed(1, 9), 7);
    }

    /** Worst 50 of feed 0 and 46 of feed 1, in racks of two rows. */
    private static void feeds(RackPlanner p) {
        p.addRack(0, 2, ANY, ANY);
        p.addRack(1, 9, ANY, ANY);
        p.place(2, 40, 0, 2);
        p.place(1, 10, 0, 0);
        p.place(1, 6, 0, 1);
    }

    /** "if the worst of all racks on it is above that": not as it is just at it. */
    private static void setFeedDownToTheWorst() {
        RackPlanner p = new RackPlanner();
        feeds(p);
        checks.due("setFeed(0, 50)", p.setFeed(0, 50), 20000);
        checks.due("setFeed(1, 46)", p.setFeed(1, 46), 20000);
        checks.due("racksFor of nothing", p.racksFor(1, 0, 0, 2), 2);
        checks.due("racksFor of feed 0", p.racksFor(1, 1, 0, 0), 0);
        checks.due("racksFor of feed 1", p.racksFor(1, 1, 0, 1), 0);
        p.setFeed(0, 51);
        checks.due("racksFor of 1 of feed 0", p.racksFor(1, 1, 0, 0), 2);
        checks.due("racksFor of 2 of feed 0", p.racksFor(1, 2, 0, 0), 0);
        p.takeOut(0);
        checks.due("setFeed(0, 10)", p.setFeed(0, 10), 51);
        checks.due("setFeed(1, 6)", p.setFeed(1, 6), 46);
    }

    /** "if the worst of all racks on it is above that": in full of two cords, and of all racks together. */
    private static void setFeedRefusesBelowTheWorst() {
        checks.state("feed 0, 1 below", RacksEdgesTest::feeds, p -> p.setFeed(0, 49));
        checks.state("feed 1, 1 below", RacksEdgesTest::feeds, p -> p.setFeed(1, 45));
        checks.state("feed 0 to 0", RacksEdgesTest::feeds, p -> p.setFeed(0, 0));
        checks.state("feed 1 to 0", RacksEdgesTest::feeds, p -> p.setFeed(1, 0));
        RackPlanner p = new RackPlanner();
        feeds(p);
        p.setFeed(0, 60);
        checks.state("feed 0 below", () -> p.setFeed(0, 49));
        checks.due("the limit behind what was refused", p.setFeed(0, 50), 60);
    }

    /** "(as if the other feed had failed, and this one had not)". */
    private static void setFeedOfAFailedFeed() {
        for (int down : new int[] {0, 1}) {
            Checks.Script failed = p -> {
                feeds(p);
                p.switchFeed(down);
            };
            checks.state("feed 0, 1 below", failed, p -> p.setFeed(0, 49));
            checks.state("feed 1, 1 below", failed, p -> p.setFeed(1, 45));
            checks.answers("feed 0 at its worst", failed, p -> p.setFeed(0, 50));
            checks.answers("feed 1 at its worst", failed, p -> p.setFeed(1, 46));
        }
    }

    /** "of several exceptions it is the first one of the throws clause": -1 is below the worst, too. */
    private static void setFeedArgumentComesFirst() {
        checks.argument("setFeed(0, -1)", RacksEdgesTest::feeds, p -> p.setFeed(0, -1));
        checks.argument("setFeed(1, -1)", RacksEdgesTest::feeds, p -> p.setFeed(1, -1));
        checks.argument("setFeed(1, 20001)", RacksEdgesTest::feeds, p -> p.setFeed(1, 20001));
        checks.argument("setFeed(2, 0)", RacksEdgesTest::feeds, p -> p.setFeed(2, 0));
        checks.argument("setFeed(-1, -1)", RacksEdgesTest::feeds, p -> p.setFeed(-1, -1));
    }

    private static void setFeedOfNothing() {
        RackPlanner p = new RackPlanner();
        p.addRack(0, 3, ANY, ANY);
        p.place(1, 0, 5, 2);
        p.place(1, 9, 5, 1);
        checks.due("setFeed(0, 0) as nothing is taken", p.setFeed(0, 0), 20000);
        checks.due("racksFor of no power", p.racksFor(1, 0, 0, 2), 1);
        checks.due("racksFor of power by two cords", p.racksFor(1, 1, 0, 2), 0);
        checks.due("racksFor of power of the other feed", p.racksFor(1, 1, 0, 1), 1);
    }

    /** "Returns how many machines are dark then": none as none is placed. */
    private static void switchFeedOfNoMachines() {
        RackPlanner p = new RackPlanner();
        for (int feed : new int[] {0, 1, 0, 1}) {
            checks.due("switchFeed(" + feed + ") without racks", p.switchFeed(feed), 0);
        }
        p.addRack(0, 3, ANY, ANY);
        for (int feed : new int[] {1, 0, 1, 0}) {
            checks.due("switchFeed(" + feed + ") of an empty rack", p.switchFeed(feed), 0);
        }
    }

    /** "how many machines are dark then": all that are, not those that this call made dark. */
    private static void switchFeedCountsAllThatAreDarkThen() {
        RackPlanner p = new RackPlanner();
        p.addRack(0, 4, ANY, ANY);
        p.addRack(3, 9, ANY, ANY);
        for (int cords : new int[] {0, 1, 1, 2, 2, 2, 2}) {
            p.place(1, cords, 0, cords);
        }
        checks.due("feed 0 fails", p.switchFeed(0), 1);
        checks.due("feed 1 fails, too", p.switchFeed(1), 7);
        checks.due("feed 0 comes back", p.switchFeed(0), 2);
        checks.due("feed 1 comes back", p.switchFeed(1), 0);
        checks.due("feed 1 fails", p.switchFeed(1), 2);
        p.takeOut(1);
        p.cord(3, 1);
        p.cord(4, 1);
        p.place(1, 0, 0, 1);
        checks.due("feed 0 fails, too", p.switchFeed(0), 7);
        checks.due("feed 0 comes back as others are corded", p.switchFeed(0), 4);
    }

    private static void switchFeedOfSixty() {
        RackPlanner p = new RackPlanner();
        for (int rack = 0; rack < 3; rack++) {
            p.addRack(rack, 20, 0, 0);
        }
        for (int i = 0; i < 60; i++) {
            p.place(1, 0, 0, 1);
        }
        checks.due("feed 0 fails", p.switchFeed(0), 0);
        checks.due("feed 1 fails, too", p.switchFeed(1), 60);
        checks.due("feed 0 comes back", p.switchFeed(0), 60);
        checks.due("feed 1 comes back", p.switchFeed(1), 0);
    }

    private static void switchFeedRefused() {
        Checks.Script failed = p -> {
            feeds(p);
            p.switchFeed(1);
        };
        checks.argument("switchFeed(-1)", failed, p -> p.switchFeed(-1));
        checks.argument("switchFeed(2)", failed, p -> p.switchFeed(2));
    }

    /** "Tells whether a feed has failed": each for itself, and no longer as it has come back. */
    private static void hasFailedOfEachFeed() {
        for (int feed : new int[] {0, 1}) {
            RackPlanner p = new RackPlanner();
            p.switchFeed(feed);
            checks.due("hasFailed of what failed", p.hasFailed(feed), true);
            checks.due("hasFailed of the other", p.hasFailed(1 - feed), false);
            checks.argument("hasFailed(-1)", () -> p.hasFailed(-1));
            checks.argument("hasFailed(2)", () -> p.hasFailed(2));
            p.switchFeed(1 - feed);
            checks.due("hasFailed as both failed", p.hasFailed(feed), true);
            p.switchFeed(feed);
            checks.due("hasFailed of what came back", p.hasFailed(feed), false);
            checks.due("hasFailed of what did not", p.hasFailed(1 - feed), true);
        }
    }

    /** "Returns how many racks there are." */
    private static void racksFrom0To8() {
        RackPlanner p = new RackPlanner();
        for (int rack = 0; rack < 8; rack++) {
            checks.due("racks()", p.racks(), rack);
            checks.argument("addRack of no slots", () -> p.addRack(0, 0, 0, 0));
            checks.due("racks() behind what was refused", p.racks(), rack);
            p.addRack(0, 1, 0, 0);
        }
        checks.due("racks()", p.racks(), 8);
        checks.state("the ninth rack", () -> p.addRack(0, 1, 0, 0));
        checks.due("racks() behind the ninth", p.racks(), 8);
    }
}
