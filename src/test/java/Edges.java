/** The inputs beside a bound, and the ends of int. */
final class Edges {
    private static final int LEAST = Integer.MIN_VALUE;
    private static final int MOST = Integer.MAX_VALUE;

    private Edges() {
    }

    /** The first outside on each side, and the least and the greatest int. */
    static int[] outside(int first, int last) {
        return new int[] {first - 1, last + 1, LEAST, MOST};
    }

    /** The last inside on each side. */
    static int[] inside(int first, int last) {
        return new int[] {first, last};
    }

    static final int[] NO_JUNCTION = outside(0, 11);
    static final int[] NO_DISTRICT = outside(0, 3);
    static final int[] NO_NODE = outside(0, 15);
    static final int[] NO_UNIT = outside(0, 5);
    static final int[] NO_SKILL = outside(0, 2);
    static final int[] NO_STATE = outside(0, 3);
    static final int[] NO_ROOM = outside(0, 1);
    static final int[] NO_CALL = outside(0, 15);
}
