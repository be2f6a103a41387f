/** Promise 10: "No points any more, the variables stay: how many points there were." */
final class Promise10ClearTest {
    public static void main(String[] args) {
        howManyThereWere();
        noPointsAnyMore();
        theVariablesStay();
        pointsAfterClearAreNew();
        fullTwice();
        Due.end();
    }

    private static void howManyThereWere() {
        Due.same("clear() of a new object", new Counted().clear(), 0);
        Counted variables = new Counted();
        variables.variable(8, true, true);
        Due.same("clear() of variables alone", variables.clear(), 0);
        for (int many : new int[] {1, 2, 3, 59, 118, 119, 120}) {
            Counted x = new Counted();
            for (int number = 0; number < many; number++) {
                x.point(0, 0, 0, 0);
                // Points that no way comes to are points too.
                x.next(number, -1, -1);
            }
            x.point(6, 0, 0, 0);
            Due.same("clear() of " + many, x.clear(), many);
            Due.same("clear() once more", x.clear(), 0);
            Due.same("count(0)", x.count(0), 0);
        }
    }

    private static void noPointsAnyMore() {
        Counted x = new Counted();
        x.variable(2, true, true);
        x.variable(1, false, false);
        for (int number = 0; number < 120; number++) {
            x.point(2, 0, 0, 2);
            x.next(number, 119 - number, 0);
        }
        Due.same("without(0, 0)", x.without(0, 0), 3);
        Due.same("clear()", x.clear(), 120);
        int[] counts = {0, 0, 0, -1, 2, 3};
        for (int what = 0; what < counts.length; what++) {
            Due.same("count(" + what + ")", x.count(what), counts[what]);
        }
        for (int point : new int[] {0, 1, 60, 118, 119, 120, -1, Edge.LOW, Edge.HIGH}) {
            Due.same("isReached(" + point + ")", x.isReached(point), false);
            Due.same("without(" + point + ", 0)", x.without(point, 0), 0);
            Due.same("having(" + point + ", 0)", x.having(point, 0), 0);
            Due.same("fault(" + point + ")", x.fault(point), -1);
            Due.same("next(" + point + ", 1, 2)", x.next(point, 1, 2), false);
        }
    }

    private static void theVariablesStay() {
        Counted x = new Counted();
        for (int number = 0; number < 20; number++) {
            x.variable(number % 8 + 1, number % 2 == 1, number % 3 == 1);
        }
        int parts = x.count(5);
        x.point(5, 1, 0, 0);
        x.point(1, 2, 0, 1);
        Due.same("clear()", x.clear(), 2);
        Due.same("count(4)", x.count(4), 20);
        Due.same("count(5)", x.count(5), parts);
        Due.same("no room for one more", x.variable(1, false, false), -1);
        for (int number = 0; number < 20; number++) {
            int all = (1 << number % 8 + 1) - 1;
            boolean given = number % 3 == 1;
            Due.same("point", x.point(1, number, 0, number % 8 + 1), 0);
            Due.same("one more than its parts", x.point(1, number, 0, number % 8 + 2), -1);
            Due.same("having(0, " + number + ")", x.having(0, number), given ? all : 0);
            Due.same("without(0, " + number + ")", x.without(0, number), given ? 0 : all);
            Due.same("fault(0)", x.fault(0), number % 2 == 1 && given ? 2 : 0);
            Due.same("clear()", x.clear(), 1);
        }
    }

    private static void pointsAfterClearAreNew() {
        Counted x = new Counted();
        x.variable(2, true, true);
        x.variable(1, false, false);
        for (int number = 0; number < 120; number++) {
            x.point(2, 0, 0, 2);
            x.next(number, 119, 0);
        }
        x.count(2);
        x.clear();
        Due.same("point 0", x.point(0, 0, 0, 0), 0);
        Due.same("point 1", x.point(1, 0, 0, 2), 1);
        Due.same("point 2", x.point(3, 1, 0, 1), 2);
        Due.same("having(0, 0)", x.having(0, 0), 3);
        Due.same("without(0, 0)", x.without(0, 0), 0);
        Due.same("isReached(2)", x.isReached(2), true);
        Due.same("isReached(3)", x.isReached(3), false);
        Due.same("fault(1): it is once still", x.fault(1), 2);
        Due.same("fault(2)", x.fault(2), 1);
        Due.same("fault(3)", x.fault(3), -1);
        Due.same("clear()", x.clear(), 3);
    }

    private static void fullTwice() {
        Counted x = new Counted();
        x.variable(1, false, false);
        for (int turn = 0; turn < 2; turn++) {
            for (int number = 0; number < 120; number++) {
                Due.same("point", x.point(turn == 0 ? 1 : 3, 0, 0, 1), number);
            }
            Due.same("no room", x.point(0, 0, 0, 0), -1);
            Due.same("count(1)", x.count(1), 120);
            Due.same("count(2)", x.count(2), turn == 0 ? 0 : 120);
            Due.same("having(119, 0)", x.having(119, 0), turn == 0 ? 1 : 0);
            Due.same("clear()", x.clear(), 120);
        }
    }
}
