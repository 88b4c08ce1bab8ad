/** Arguments at the ends of what the document allows, beside them, and far outside. */
final class Ends {
    static final int MIN = Integer.MIN_VALUE;
    static final int MAX = Integer.MAX_VALUE;
    /** Arguments that are never good, the smallest and the greatest int among them. */
    static final int[] FAR = {MIN, MIN + 1, -65536, -256, -1000, 1000, 65536, MAX - 1, MAX};

    private Ends() {
    }

    static boolean isWithin(int value, int least, int most) {
        return least <= value && value <= most;
    }

    /**
     * Both ends, one and two beside each, and what would be good if only some bits of it were looked
     * at, or if a sum or a difference with an end wrapped around.
     */
    static int[] around(int least, int most) {
        return new int[] {
            least - 2, least - 1, least, least + 1, most - 1, most, most + 1, most + 2,
            least + 256, most - 256, least + 65536, most - 65536,
            MIN, MIN + 1, MIN + least, MIN + most, MAX - least, MAX - most, MAX - 1, MAX,
        };
    }

    /** Ints that number nothing, if there are so many numbered from 0. */
    static int[] notBelow(int count) {
        return new int[] {
            -2, -1, count, count + 1, 256, -256, 65536, -65536, MIN, MIN + 1, MIN + count, MAX - 1, MAX,
        };
    }
}
