import java.util.TreeSet;

/** Ints at and beyond the edges of a range. */
final class Edge {
    static final int LOW = Integer.MIN_VALUE;
    static final int HIGH = Integer.MAX_VALUE;

    private Edge() {
    }

    /** Outside first .. last: the nearest ones, the smallest and largest ints, and what cut-off bits would bring in. */
    static int[] outside(int first, int last) {
        int[] some = {
            LOW, LOW + 1, LOW + first, LOW + last, -256, -120, -20, -8, -2, -1, first - 2, first - 1,
            last + 1, last + 2, first + 8, first + 32, first + 64, first + 256, last + 256, first + 65536,
            last + 65536, 1 << 30, HIGH - 1, HIGH,
        };
        TreeSet<Integer> outside = new TreeSet<>();
        for (int value : some) {
            if (value < first || value > last) {
                outside.add(value);
            }
        }
        return outside.stream().mapToInt(Integer::intValue).toArray();
    }
}
