/** Promises 18 to 22: the loads of racks and rows. */
public final class LoadsTest {
    private static final Checks checks = new Checks("LoadsTest");

    public static void main(String[] args) {
        powerOf();
        powerOfHalves();
        worstOf();
        weightOf();
        heatOf();
        gap();
        refused();
        checks.end();
    }

    /** Two machines of each way in two racks of row 1, of powers that tell one from another. */
    private static RackPlanner loaded() {
        RackPlanner p = new RackPlanner();
        p.addRack(1, 6, 100, 10000);
        p.addRack(1, 6, 100, 10000);
        p.addRack(3, 6, 100, 10000);
        p.place(2, 1, 10, 0);
        p.place(2, 10, 20, 1);
        p.place(2, 101, 30, 2);
        p.place(6, 1001, 7, 2);
        return p;
    }

    private static void checkPower(RackPlanner p, int rack, int first, int second) {
        checks.due("powerOf(" + rack + ", 0)", p.powerOf(rack, 0), first);
        checks.due("powerOf(" + rack + ", 1)", p.powerOf(rack, 1), second);
    }

    /** Promise 18. */
    private static void powerOf() {
        RackPlanner p = loaded();
        checkPower(p, 0, 52, 60);
        checkPower(p, 1, 501, 500);
        checkPower(p, 2, 0, 0);
        p.switchFeed(0);
        checkPower(p, 0, 0, 111);
        checkPower(p, 1, 0, 1001);
        p.switchFeed(1);
        checkPower(p, 0, 0, 0);
        p.switchFeed(0);
        checkPower(p, 0, 102, 0);
        checkPower(p, 1, 1001, 0);
        p.switchFeed(1);
        checkPower(p, 0, 52, 60);
        p.takeOut(2);
        checkPower(p, 0, 1, 10);
    }

    private static void powerOfHalves() {
        int[][] halves = {{0, 0, 0}, {1, 1, 0}, {2, 1, 1}, {3, 2, 1}, {1999, 1000, 999}, {2000, 1000, 1000}};
        for (int[] h : halves) {
            RackPlanner p = new RackPlanner();
            p.addRack(0, 6, 0, 10000);
            p.place(1, h[0], 0, 2);
            checkPower(p, 0, h[1], h[2]);
            p.place(1, h[0], 0, 2);
            checkPower(p, 0, 2 * h[1], 2 * h[2]);
        }
    }

    /** Promise 19. */
    private static void worstOf() {
        RackPlanner p = loaded();
        for (int failed = 0; failed < 4; failed++) {
            checks.due("worstOf(0, 0)", p.worstOf(0, 0), 102);
            checks.due("worstOf(0, 1)", p.worstOf(0, 1), 111);
            checks.due("worstOf(1, 0)", p.worstOf(1, 0), 1001);
            checks.due("worstOf(1, 1)", p.worstOf(1, 1), 1001);
            checks.due("worstOf(2, 0)", p.worstOf(2, 0), 0);
            p.switchFeed(failed % 2);
        }
        p.takeOut(0);
        checks.due("worstOf(0, 0) as one is out", p.worstOf(0, 0), 101);
        checks.due("worstOf(0, 1) as one is out", p.worstOf(0, 1), 111);
    }

    /** Promise 20. */
    private static void weightOf() {
        RackPlanner p = loaded();
        p.switchFeed(0);
        checks.due("weightOf(0)", p.weightOf(0), 60);
        checks.due("weightOf(1)", p.weightOf(1), 7);
        checks.due("weightOf(2)", p.weightOf(2), 0);
        p.takeOut(1);
        checks.due("weightOf(0) as one is out", p.weightOf(0), 40);
    }

    /** Promise 21. */
    private static void heatOf() {
        RackPlanner p = loaded();
        p.place(6, 5, 0, 1);
        int[] all = {0, 1113, 0, 5};
        checkHeat(p, all);
        p.switchFeed(1);
        checkHeat(p, 0, 1103, 0, 0);
        p.switchFeed(0);
        checkHeat(p, 0, 0, 0, 0);
        p.switchFeed(1);
        checkHeat(p, 0, 1112, 0, 5);
        p.switchFeed(0);
        checkHeat(p, all);
        checks.argument("heatOf(-1)", () -> p.heatOf(-1));
        checks.argument("heatOf(4)", () -> p.heatOf(4));
        checks.argument("heatOf(the least)", () -> p.heatOf(Integer.MIN_VALUE));
    }

    private static void checkHeat(RackPlanner p, int... want) {
        for (int row = 0; row < 4; row++) {
            checks.due("heatOf(" + row + ")", p.heatOf(row), want[row]);
        }
    }

    /** Promise 22: at the bottom, in the middle, at the top, none, all. */
    private static void gap() {
        RackPlanner p = new RackPlanner();
        p.addRack(0, 6, 0, 0);
        p.addRack(0, 20, 0, 0);
        checks.due("gap of an empty rack", p.gap(0), 6);
        checks.due("gap of a rack of 20", p.gap(1), 20);
        for (int machine = 0; machine < 6; machine++) {
            p.place(1, 0, 0, 0);
            checks.due("gap at the top", p.gap(0), 5 - machine);
        }
        checks.due("gap of the other rack", p.gap(1), 20);
        p.takeOut(0);
        checks.due("gap at the bottom", p.gap(0), 1);
        p.takeOut(2);
        checks.due("two gaps of 1", p.gap(0), 1);
        p.takeOut(3);
        checks.due("a gap in the middle", p.gap(0), 2);
        p.takeOut(5);
        checks.due("the widest of three", p.gap(0), 2);
        p.takeOut(1);
        checks.due("gaps that grow together", p.gap(0), 4);
    }

    private static void refused() {
        RackPlanner p = loaded();
        for (int rack : new int[] {-1, 3, 8, Integer.MIN_VALUE, Integer.MAX_VALUE}) {
            checks.index("powerOf(" + rack + ", 0)", () -> p.powerOf(rack, 0));
            checks.index("powerOf(" + rack + ", 2)", () -> p.powerOf(rack, 2));
            checks.index("worstOf(" + rack + ", 1)", () -> p.worstOf(rack, 1));
            checks.index("worstOf(" + rack + ", -1)", () -> p.worstOf(rack, -1));
            checks.index("weightOf(" + rack + ")", () -> p.weightOf(rack));
            checks.index("gap(" + rack + ")", () -> p.gap(rack));
        }
        for (int feed : new int[] {-1, 2, Integer.MIN_VALUE, Integer.MAX_VALUE}) {
            checks.argument("powerOf(0, " + feed + ")", () -> p.powerOf(0, feed));
            checks.argument("worstOf(0, " + feed + ")", () -> p.worstOf(0, feed));
        }
    }
}
