import java.util.Arrays;

/** Counts the answers that are not the due ones, and prints them. */
final class Checks {
    /** A call of which only the exception is looked at. */
    interface Call {
        void run();
    }

    /** Calls on one object. */
    interface Script {
        void run(RackPlanner planner);
    }

    /** One call with arguments that a table tells. */
    interface Made {
        void on(RackPlanner planner, int[] a);
    }

    private final String name;
    private int wrong;

    Checks(String name) {
        this.name = name;
    }

    void due(String call, long got, long want) {
        if (got != want) {
            report(call + " answered " + got + ", due is " + want);
        }
    }

    void due(String call, boolean got, boolean want) {
        due(call, got ? 1 : 0, want ? 1 : 0);
    }

    void due(String what, String got, String want) {
        if (!got.equals(want)) {
            report(what + " is " + got + ", due is " + want);
        }
    }

    void argument(String call, Call made) {
        thrown(call, made, IllegalArgumentException.class);
    }

    void state(String call, Call made) {
        thrown(call, made, IllegalStateException.class);
    }

    void index(String call, Call made) {
        thrown(call, made, IndexOutOfBoundsException.class);
    }

    void argument(String call, Script before, Script made) {
        refused(call, before, made, IllegalArgumentException.class);
    }

    void state(String call, Script before, Script made) {
        refused(call, before, made, IllegalStateException.class);
    }

    void index(String call, Script before, Script made) {
        refused(call, before, made, IndexOutOfBoundsException.class);
    }

    private void refused(String call, Script before, Script made, Class<?> want) {
        RackPlanner asked = new RackPlanner();
        before.run(asked);
        thrown(call, () -> made.run(asked), want);
        changesNothing(call, before, planner -> {
            try {
                made.run(planner);
            } catch (RuntimeException told) {
                return;
            }
        });
    }

    /** Objects that were asked answer all as ones that were not; two of each, as an object bears 512 calls. */
    void changesNothing(String call, Script before, Script asked) {
        RackPlanner[] objects = new RackPlanner[4];
        for (int i = 0; i < objects.length; i++) {
            objects[i] = new RackPlanner();
            before.run(objects[i]);
            if (i % 2 == 0) {
                asked.run(objects[i]);
            }
        }
        due("the state behind " + call, stateOf(objects[0]), stateOf(objects[1]));
        due("what is hidden behind " + call, hiddenOf(objects[2]), hiddenOf(objects[3]));
    }

    /**
     * Each argument in turn at its least and its greatest value, which are answered, and at the
     * nearest and the farthest values outside, which are not; the others as in plain.
     */
    void ranges(String call, Script before, Made made, int[] plain, int[] least, int[] most) {
        for (int at = 0; at < plain.length; at++) {
            for (int fine : new int[] {least[at], most[at]}) {
                int[] a = with(plain, at, fine);
                answers(call + Arrays.toString(a), before, p -> made.on(p, a));
            }
            for (int wide : new int[] {least[at] - 1, most[at] + 1, Integer.MIN_VALUE, Integer.MAX_VALUE}) {
                int[] a = with(plain, at, wide);
                argument(call + Arrays.toString(a), before, p -> made.on(p, a));
            }
        }
    }

    private static int[] with(int[] plain, int at, int value) {
        int[] a = plain.clone();
        a[at] = value;
        return a;
    }

    void answers(String call, Script before, Script made) {
        RackPlanner planner = new RackPlanner();
        before.run(planner);
        try {
            made.run(planner);
        } catch (RuntimeException got) {
            report(call + " threw " + got.getClass().getName() + ", due is an answer");
        }
    }

    /** Where a machine is, told by rackOf and slotOf. */
    void at(RackPlanner planner, int machine, int rack, int slot) {
        due("rackOf(" + machine + ")", planner.rackOf(machine), rack);
        due("slotOf(" + machine + ")", planner.slotOf(machine), slot);
    }

    /** The very class, and thrown by the program's own code: the machine and the library never throw in it. */
    private void thrown(String call, Call made, Class<?> want) {
        try {
            made.run();
        } catch (RuntimeException got) {
            if (got.getClass() != want) {
                report(call + " threw " + got.getClass().getName() + ", due is " + want.getName());
            } else if (!thrownByPlanner(got)) {
                report(call + " did not throw by the program's own code");
            }
            return;
        }
        report(call + " threw nothing, due is " + want.getName());
    }

    static boolean thrownByPlanner(RuntimeException thrown) {
        StackTraceElement[] trace = thrown.getStackTrace();
        return trace.length > 0 && trace[0].getClassName().startsWith("RackPlanner");
    }

    void report(String line) {
        wrong++;
        System.out.println(name + ": " + line);
    }

    int wrong() {
        return wrong;
    }

    void end() {
        System.out.println(wrong == 0 ? "all answers are as due" : wrong + " answers are not as due");
        if (wrong != 0) {
            System.exit(1);
        }
    }

    /**
     * All that the face tells of an object, limits too (by what room there is for machines that
     * only one of them holds back); for the same state the same text.
     */
    static String stateOf(RackPlanner planner) {
        StringBuilder text = new StringBuilder();
        text.append("racks ").append(planner.racks()).append(", machines ").append(planner.machines());
        for (int feed = 0; feed < 2; feed++) {
            text.append(", feed ").append(planner.hasFailed(feed));
        }
        for (int row = 0; row < 4; row++) {
            text.append(", heat ").append(planner.heatOf(row));
        }
        for (int rack = 0; rack < planner.racks(); rack++) {
            appendRack(text, planner, rack);
        }
        text.append("; walk");
        for (int m = planner.next(-1); m != -1; m = planner.next(m)) {
            text.append(' ').append(m).append(planner.isDark(m) ? " dark " : " at ");
            text.append(planner.rackOf(m)).append('/').append(planner.slotOf(m));
        }
        text.append("; room");
        int[][] kinds = {{1, 0, 0, 0}, {1, 0, 1, 0}, {1, 1, 0, 0}, {1, 1, 0, 1}, {1, 0, 10, 0}, {1, 10, 0, 0}, {1, 10, 0, 1}};
        for (int[] k : kinds) {
            text.append(' ').append(planner.roomFor(k[0], k[1], k[2], k[3]));
        }
        return text.toString();
    }

    /** What is seen only by calls that change the state: cords, limits of feeds, where a pack puts all, the next number. */
    private static String hiddenOf(RackPlanner planner) {
        StringBuilder text = new StringBuilder();
        text.append("cords");
        for (int m = planner.next(-1); m != -1; m = planner.next(m)) {
            text.append(' ').append(cordsOf(planner, m));
        }
        text.append("; feeds ").append(planner.setFeed(0, 20000)).append(' ').append(planner.setFeed(1, 20000));
        text.append("; pack ").append(planner.pack()).append(", walk");
        for (int m = planner.next(-1); m != -1; m = planner.next(m)) {
            text.append(' ').append(m);
        }
        if (planner.racks() < 8) {
            planner.addRack(3, 1, 0, 0);
        }
        if (planner.machines() < 60 && planner.racksFor(1, 0, 0, 0) != 0) {
            text.append("; next ").append(planner.place(1, 0, 0, 0));
        }
        return text.toString();
    }

    /** Its own cords are the only ones that no limit refuses for sure, so each way is tried until one is answered. */
    private static int cordsOf(RackPlanner planner, int machine) {
        for (int cords = 0; cords < 3; cords++) {
            try {
                return planner.cord(machine, cords);
            } catch (IllegalStateException full) {
                continue;
            }
        }
        return -1;
    }

    private static void appendRack(StringBuilder text, RackPlanner planner, int rack) {
        text.append("; rack weight ").append(planner.weightOf(rack)).append(" gap ").append(planner.gap(rack));
        for (int feed = 0; feed < 2; feed++) {
            text.append(" power ").append(planner.powerOf(rack, feed));
            text.append(" worst ").append(planner.worstOf(rack, feed));
        }
        try {
            for (int slot = 0; slot < 20; slot++) {
                text.append(' ').append(planner.machineAt(rack, slot));
            }
        } catch (IndexOutOfBoundsException end) {
            text.append(" top");
        }
    }
}
