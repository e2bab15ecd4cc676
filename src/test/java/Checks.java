/** Counts the answers that are not the due ones, and prints them. */
final class Checks {
    /** A call of which only the exception is looked at. */
    interface Call {
        void run();
    }

    private final String name;
    private int wrong;

    Checks(String name) {
        this.name = name;
    }

    void due(String call, long got, long want) {
        if (got != want) {
            report(call + " answered " + got + ", due is " + want);
        }
    }

    void due(String call, boolean got, boolean want) {
        due(call, got ? 1 : 0, want ? 1 : 0);
    }

    void due(String what, String got, String want) {
        if (!got.equals(want)) {
            report(what + " is " + got + ", due is " + want);
        }
    }

    void argument(String call, Call made) {
        thrown(call, made, IllegalArgumentException.class);
    }

    void state(String call, Call made) {
        thrown(call, made, IllegalStateException.class);
    }

    void index(String call, Call made) {
        thrown(call, made, IndexOutOfBoundsException.class);
    }

    /** The very class, and thrown by the program's own code: the machine and the library never throw in it. */
    private void thrown(String call, Call made, Class<?> want) {
        try {
            made.run();
        } catch (RuntimeException got) {
            if (got.getClass() != want) {
                report(call + " threw " + got.getClass().getName() + ", due is " + want.getName());
            } else if (!thrownByPlanner(got)) {
                report(call + " did not throw by the program's own code");
            }
            return;
        }
        report(call + " threw nothing, due is " + want.getName());
    }

    static boolean thrownByPlanner(RuntimeException thrown) {
        StackTraceElement[] trace = thrown.getStackTrace();
        return trace.length > 0 && trace[0].getClassName().startsWith("RackPlanner");
    }

    void report(String line) {
        wrong++;
        System.out.println(name + ": " + line);
    }

    int wrong() {
        return wrong;
    }

    void end() {
        System.out.println(wrong == 0 ? "all answers are as due" : wrong + " answers are not as due");
        if (wrong != 0) {
            System.exit(1);
        }
    }

    /**
     * All that the face tells of an object, limits too (by what room there is for machines that
     * only one of them holds back); for the same state the same text.
     */
    static String stateOf(RackPlanner planner) {
        StringBuilder text = new StringBuilder();
        text.append("racks ").append(planner.racks()).append(", machines ").append(planner.machines());
        for (int feed = 0; feed < 2; feed++) {
            text.append(", feed ").append(planner.hasFailed(feed));
        }
        for (int row = 0; row < 4; row++) {
            text.append(", heat ").append(planner.heatOf(row));
        }
        for (int rack = 0; rack < planner.racks(); rack++) {
            appendRack(text, planner, rack);
        }
        text.append("; walk");
        for (int m = planner.next(-1); m != -1; m = planner.next(m)) {
            text.append(' ').append(m).append(planner.isDark(m) ? " dark " : " at ");
            text.append(planner.rackOf(m)).append('/').append(planner.slotOf(m));
        }
        text.append("; room");
        int[][] kinds = {{1, 0, 0, 0}, {1, 0, 1, 0}, {1, 1, 0, 0}, {1, 1, 0, 1}, {1, 0, 10, 0}, {1, 10, 0, 0}, {1, 10, 0, 1}};
        for (int[] k : kinds) {
            text.append(' ').append(planner.roomFor(k[0], k[1], k[2], k[3]));
        }
        return text.toString();
    }

    private static void appendRack(StringBuilder text, RackPlanner planner, int rack) {
        text.append("; rack weight ").append(planner.weightOf(rack)).append(" gap ").append(planner.gap(rack));
        for (int feed = 0; feed < 2; feed++) {
            text.append(" power ").append(planner.powerOf(rack, feed));
            text.append(" worst ").append(planner.worstOf(rack, feed));
        }
        try {
            for (int slot = 0; slot < 20; slot++) {
                text.append(' ').append(planner.machineAt(rack, slot));
            }
        } catch (IndexOutOfBoundsException end) {
            text.append(" top");
        }
    }
}
