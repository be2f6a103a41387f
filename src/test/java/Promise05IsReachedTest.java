/** Promise 5: isReached. */
final class Promise05IsReachedTest {
    public static void main(String[] args) {
        PartsFlow x = new PartsFlow();
        Due.same("isReached(0) without points", x.isReached(0), false);
        x.point(0, 0, 0, 0);
        Due.same("isReached(0)", x.isReached(0), true);
        for (int point : new int[] {1, -1, 119, 120, Integer.MIN_VALUE, Integer.MAX_VALUE}) {
            Due.same("isReached(" + point + ")", x.isReached(point), false);
        }
        x.point(0, 0, 0, 0);
        x.point(0, 0, 0, 0);
        x.next(0, -1, -1);
        x.next(1, 2, -1);
        x.next(2, 1, 0);
        Due.same("isReached(0) alone", x.isReached(0), true);
        Due.same("isReached(1), by points alone that no way comes to", x.isReached(1), false);
        Due.same("isReached(2), by points alone that no way comes to", x.isReached(2), false);
        backwards();
        Due.end();
    }

    private static void backwards() {
        PartsFlow x = new PartsFlow();
        for (int number = 0; number < 120; number++) {
            x.point(0, 0, 0, 0);
            x.next(number, number == 0 ? 119 : number - 1, -1);
        }
        Due.same("isReached(1) by 119 and so on down", x.isReached(1), true);
        x.next(60, 60, -1);
        Due.same("isReached(60)", x.isReached(60), true);
        Due.same("isReached(59)", x.isReached(59), false);
        Due.same("count(1)", x.count(1), 61);
    }
}
