/** Each kind of limit in turn: racks of which that limit alone holds machines back, and machines that take of it. */
final class Limits {
    static final int RACK_WEIGHT = 0;
    static final int RACK_FEED_0 = 1;
    static final int RACK_FEED_1 = 2;
    static final int ROW_WEIGHT = 3;
    static final int ROW_HEAT = 4;
    static final int FEED_0 = 5;
    static final int FEED_1 = 6;
    static final int KINDS = 7;
    private static final int ANY = 10000;

    private Limits() {
    }

    static String name(int kind) {
        switch (kind) {
            case RACK_WEIGHT: return "the limit of weight of a rack";
            case RACK_FEED_0: return "the limit of power of a rack from feed 0";
            case RACK_FEED_1: return "the limit of power of a rack from feed 1";
            case ROW_WEIGHT: return "the limit of weight of a row";
            case ROW_HEAT: return "the limit of heat of a row";
            case FEED_0: return "the limit of feed 0";
            default: return "the limit of feed 1";
        }
    }

    /** Whether all racks have the limit together, not each rack or row its own. */
    static boolean isOfAll(int kind) {
        return kind == FEED_0 || kind == FEED_1;
    }

    /** Two racks of 20 slots, rack 0 in row 0 and rack 1 in row 1, each with that limit; a feed bears twice of it. */
    static void racks(RackPlanner p, int kind, int limit) {
        boolean ofFeed = kind == RACK_FEED_0 || kind == RACK_FEED_1;
        for (int rack = 0; rack < 2; rack++) {
            p.addRack(rack, 20, kind == RACK_WEIGHT ? limit : ANY, ofFeed ? limit : ANY);
            p.setRow(rack, kind == ROW_HEAT ? limit : ANY, kind == ROW_WEIGHT ? limit : ANY);
        }
        if (isOfAll(kind)) {
            p.setFeed(kind == FEED_0 ? 0 : 1, 2 * limit);
        }
    }

    /** What a machine of one slot takes of the limit: power, weight, cords behind its slots. */
    static int[] machine(int kind, int slots, int size) {
        switch (kind) {
            case RACK_WEIGHT:
            case ROW_WEIGHT:
                return new int[] {slots, 0, size, 0};
            case RACK_FEED_0:
            case FEED_0:
                return new int[] {slots, size, 0, 0};
            case RACK_FEED_1:
            case FEED_1:
                return new int[] {slots, size, 0, 1};
            default:
                return new int[] {slots, size, 0, 2};
        }
    }

    static int place(RackPlanner p, int kind, int size) {
        return placeWide(p, kind, size, 1);
    }

    static int placeWide(RackPlanner p, int kind, int size, int slots) {
        int[] m = machine(kind, slots, size);
        return p.place(m[0], m[1], m[2], m[3]);
    }
}
