/** Promise 9: count. */
final class Promise09CountTest {
    public static void main(String[] args) {
        PartsFlow x = new PartsFlow();
        counts(x, 0, 0, 0, -1, 0, 0);
        x.variable(3, false, false);
        x.variable(8, true, true);
        counts(x, 0, 0, 0, -1, 2, 11);
        x.point(0, 0, 0, 0);
        x.point(3, 0, 0, 1);
        x.point(1, 1, 0, 8);
        x.point(1, 1, 0, 1);
        x.point(3, 1, 0, 8);
        counts(x, 5, 5, 3, 1, 2, 11);
        x.next(0, 2, -1);
        counts(x, 5, 4, 2, 2, 2, 11);
        x.next(0, 3, -1);
        counts(x, 5, 3, 1, 3, 2, 11);
        x.next(0, 4, -1);
        counts(x, 5, 2, 0, -1, 2, 11);
        for (int what : new int[] {-1, 6, 7, Integer.MIN_VALUE, Integer.MAX_VALUE}) {
            Due.same("count(" + what + ")", x.count(what), -1);
        }
        x.clear();
        x.point(3, 0, 0, 3);
        counts(x, 1, 1, 1, 0, 2, 11);
        Due.end();
    }

    private static void counts(PartsFlow x, int... due) {
        for (int what = 0; what < due.length; what++) {
            Due.same("count(" + what + ")", x.count(what), due[what]);
        }
    }
}
