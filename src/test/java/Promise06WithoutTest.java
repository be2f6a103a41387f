/** Promise 6: without. */
final class Promise06WithoutTest {
    public static void main(String[] args) {
        noSuchPointOrVariable();
        alongOneWay();
        byAllWays();
        roundALoop();
        Due.end();
    }

    private static void noSuchPointOrVariable() {
        PartsFlow x = new PartsFlow();
        x.variable(8, false, false);
        x.point(0, 0, 0, 0);
        x.point(0, 0, 0, 0);
        for (int wrong : new int[] {2, 20, 119, 120, -1, Integer.MIN_VALUE, Integer.MAX_VALUE}) {
            Due.same("without(" + wrong + ", 0)", x.without(wrong, 0), 0);
            Due.same("without(0, " + wrong + ")", x.without(0, wrong), 0);
        }
        Due.same("without(0, 0)", x.without(0, 0), 255);
        x.next(0, -1, -1);
        Due.same("without(1, 0), no way comes to it", x.without(1, 0), 0);
    }

    private static void alongOneWay() {
        PartsFlow x = new PartsFlow();
        x.variable(4, false, false);
        x.variable(4, false, true);
        x.point(1, 0, 1, 2);
        x.point(2, 0, 1, 1);
        x.point(3, 0, 0, 4);
        x.point(4, 1, 0, 0);
        x.point(1, 1, 0, 4);
        x.point(5, 1, 0, 0);
        x.point(0, 0, 0, 0);
        int[] first = {15, 9, 11, 11, 11, 11, 11};
        int[] second = {0, 0, 0, 0, 15, 0, 15};
        for (int point = 0; point < first.length; point++) {
            Due.same("without(" + point + ", 0)", x.without(point, 0), first[point]);
            Due.same("without(" + point + ", 1)", x.without(point, 1), second[point]);
        }
    }

    private static void byAllWays() {
        PartsFlow x = new PartsFlow();
        x.variable(3, false, true);
        x.point(0, 0, 0, 0);
        x.point(2, 0, 0, 1);
        x.point(2, 0, 2, 1);
        x.point(0, 0, 0, 0);
        x.next(0, 1, 2);
        x.next(1, 3, -1);
        Due.same("without where two ways meet", x.without(3, 0), 5);
        x.next(0, 2, -1);
        Due.same("without where one is gone", x.without(3, 0), 4);
        x.next(1, 3, 2);
        Due.same("without by a point that no way comes to", x.without(3, 0), 4);
    }

    private static void roundALoop() {
        PartsFlow x = new PartsFlow();
        x.variable(2, false, true);
        x.point(3, 0, 0, 2);
        x.point(2, 0, 1, 1);
        Due.same("without(0, 0) ahead of the loop", x.without(0, 0), 0);
        x.next(1, 0, -1);
        Due.same("without(0, 0) in the loop", x.without(0, 0), 2);
        Due.same("having(0, 0) in the loop", x.having(0, 0), 3);
        Due.same("fault(0) in the loop", x.fault(0), 1);
    }
}
