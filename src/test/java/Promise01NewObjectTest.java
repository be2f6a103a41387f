/** Promise 1: a new object has no variables and no points, and shares nothing with another. */
final class Promise01NewObjectTest {
    public static void main(String[] args) {
        PartsFlow other = new PartsFlow();
        other.variable(8, true, true);
        other.point(1, 0, 0, 8);
        isEmpty(new PartsFlow());
        Due.same("the other's points", other.count(0), 1);
        Due.same("the other's variables", other.count(4), 1);
        Due.same("the other's fault", other.fault(0), 2);
        Due.end();
    }

    private static void isEmpty(PartsFlow x) {
        int[] counts = {0, 0, 0, -1, 0, 0};
        for (int what = 0; what < counts.length; what++) {
            Due.same("count(" + what + ")", x.count(what), counts[what]);
        }
        Due.same("isReached(0)", x.isReached(0), false);
        Due.same("without(0, 0)", x.without(0, 0), 0);
        Due.same("having(0, 0)", x.having(0, 0), 0);
        Due.same("fault(0)", x.fault(0), -1);
        Due.same("next(0, -1, -1)", x.next(0, -1, -1), false);
        Due.same("point(1, 0, 0, 1)", x.point(1, 0, 0, 1), -1);
        Due.same("clear()", x.clear(), 0);
    }
}
