/** What an object answers to every kind of question, as one row. */
final class Answers {
    private Answers() {
    }

    static int[] of(Counted x, int[] points, int[] variables) {
        int[] row = new int[6 + 2 * points.length + 2 * points.length * variables.length];
        int at = 0;
        for (int what = 0; what < 6; what++) {
            row[at++] = x.count(what);
        }
        for (int point : points) {
            row[at++] = x.isReached(point) ? 1 : 0;
            row[at++] = x.fault(point);
            for (int variable : variables) {
                row[at++] = x.without(point, variable);
                row[at++] = x.having(point, variable);
            }
        }
        return row;
    }
}
