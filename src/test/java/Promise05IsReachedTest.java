/** Promise 5: "Whether a way comes to a point." */
final class Promise05IsReachedTest {
    public static void main(String[] args) {
        noSuchPoint();
        pointZeroAlways();
        byPointsThatNoWayComesTo();
        backwards();
        everyPointByItself();
        Due.end();
    }

    private static void noSuchPoint() {
        for (int many : new int[] {0, 1, 2, 119, 120}) {
            Counted x = new Counted();
            for (int number = 0; number < many; number++) {
                x.point(0, 0, 0, 0);
            }
            for (int point : Edge.outside(0, many - 1)) {
                Due.same("isReached(" + point + ") of " + many, x.isReached(point), false);
            }
            for (int point = 0; point < many; point++) {
                Due.same("isReached(" + point + ") of " + many, x.isReached(point), true);
            }
            x.clear();
            for (int point = 0; point < many; point++) {
                Due.same("isReached(" + point + ") after clear", x.isReached(point), false);
            }
        }
    }

    /** A way of no steps comes to point 0, whatever comes next to it. */
    private static void pointZeroAlways() {
        int[][] nexts = {{-1, -1}, {0, 0}, {0, -1}, {1, -1}, {119, 119}, {-1, 119}};
        Counted x = new Counted();
        x.point(0, 0, 0, 0);
        Due.same("isReached(0)", x.isReached(0), true);
        for (int[] n : nexts) {
            x.next(0, n[0], n[1]);
            Due.same("isReached(0) with next " + n[0] + ", " + n[1], x.isReached(0), true);
            Due.same("count(1)", x.count(1), 1);
        }
    }

    private static void byPointsThatNoWayComesTo() {
        Counted x = new Counted();
        x.point(0, 0, 0, 0);
        x.point(0, 0, 0, 0);
        x.point(0, 0, 0, 0);
        x.next(0, -1, -1);
        x.next(1, 2, -1);
        x.next(2, 1, 0);
        Due.same("isReached(0) alone", x.isReached(0), true);
        Due.same("isReached(1), by points alone that no way comes to", x.isReached(1), false);
        Due.same("isReached(2), by points alone that no way comes to", x.isReached(2), false);
        x.next(0, -1, 2);
        Due.same("isReached(2) by 0", x.isReached(2), true);
        Due.same("isReached(1) by 2", x.isReached(1), true);
    }

    private static void backwards() {
        Counted x = new Counted();
        for (int number = 0; number < 120; number++) {
            x.point(0, 0, 0, 0);
            x.next(number, number == 0 ? 119 : number - 1, -1);
        }
        Due.same("isReached(1) by 119 and so on down", x.isReached(1), true);
        x.next(60, 60, -1);
        Due.same("isReached(60)", x.isReached(60), true);
        Due.same("isReached(59)", x.isReached(59), false);
        Due.same("count(1)", x.count(1), 61);
    }

    private static void everyPointByItself() {
        for (int one = 0; one < 120; one++) {
            Counted x = new Counted();
            for (int number = 0; number < 120; number++) {
                x.point(0, 0, 0, 0);
                x.next(number, -1, -1);
            }
            x.next(0, -1, one);
            for (int number = 0; number < 120; number++) {
                Due.same("isReached(" + number + ") by 0 to " + one, x.isReached(number), number == 0 || number == one);
            }
        }
    }
}
