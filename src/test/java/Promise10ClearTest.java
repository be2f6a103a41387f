/** Promise 10: clear. */
final class Promise10ClearTest {
    public static void main(String[] args) {
        PartsFlow x = new PartsFlow();
        Due.same("clear() of a new object", x.clear(), 0);
        x.variable(2, true, true);
        x.variable(1, false, false);
        for (int number = 0; number < 120; number++) {
            x.point(2, 0, 0, 2);
            x.next(number, 119 - number, 0);
        }
        Due.same("without(0, 0)", x.without(0, 0), 3);
        Due.same("clear()", x.clear(), 120);
        Due.same("clear() once more", x.clear(), 0);
        Due.same("count(0)", x.count(0), 0);
        Due.same("count(1)", x.count(1), 0);
        Due.same("count(2)", x.count(2), 0);
        Due.same("count(3)", x.count(3), -1);
        Due.same("count(4)", x.count(4), 2);
        Due.same("count(5)", x.count(5), 3);
        Due.same("isReached(0)", x.isReached(0), false);
        Due.same("without(0, 0) without points", x.without(0, 0), 0);
        Due.same("having(0, 0) without points", x.having(0, 0), 0);
        Due.same("fault(0)", x.fault(0), -1);
        Due.same("next(0, 1, 2)", x.next(0, 1, 2), false);
        pointsAfterClearAreNew(x);
        Due.end();
    }

    private static void pointsAfterClearAreNew(PartsFlow x) {
        Due.same("point 0", x.point(0, 0, 0, 0), 0);
        Due.same("point 1", x.point(1, 0, 0, 2), 1);
        Due.same("point 2", x.point(3, 1, 0, 1), 2);
        Due.same("having(0, 0)", x.having(0, 0), 3);
        Due.same("without(0, 0)", x.without(0, 0), 0);
        Due.same("isReached(2)", x.isReached(2), true);
        Due.same("fault(1): it is once still", x.fault(1), 2);
        Due.same("fault(2)", x.fault(2), 1);
        Due.same("clear()", x.clear(), 3);
    }
}
