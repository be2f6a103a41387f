/**
 * Promise 4: "What can come next to a point is told anew: x and y (-1: none): true; false if it is no point, or x or
 * y below -1 or above 119 (a point that is not there yet: as long as it is not, no way goes on there)."
 */
final class Promise04NextTest {
    public static void main(String[] args) {
        noPoint();
        xAndYFromNoneTo119();
        itIsToldAnew();
        noneIsNone();
        aPointThatIsNotThereYet();
        everyPointThatIsNotThereYet();
        aPointThatIsNotThereAnyMore();
        Due.end();
    }

    private static Counted points(int many) {
        Counted x = new Counted();
        for (int number = 0; number < many; number++) {
            x.point(0, 0, 0, 0);
        }
        return x;
    }

    private static void noPoint() {
        for (int many : new int[] {0, 1, 2, 3, 119, 120}) {
            Counted x = points(many);
            for (int point : Edge.outside(0, many - 1)) {
                Due.same("next(" + point + ", 0, 1) of " + many, x.next(point, 0, 1), false);
                Due.same("next(" + point + ", -1, -1) of " + many, x.next(point, -1, -1), false);
                Due.same("count(1) after it", x.count(1), many);
            }
            for (int point = 0; point < many; point++) {
                Due.same("next(" + point + ", -1, -1) of " + many, x.next(point, -1, -1), true);
            }
            Due.same("count(1) when all was cut", x.count(1), many == 0 ? 0 : 1);
        }
    }

    private static void xAndYFromNoneTo119() {
        int[] right = {-1, 0, 1, 2, 3, 118, 119};
        int[] wrong = Edge.outside(-1, 119);
        for (int a : right) {
            for (int b : right) {
                Counted x = points(4);
                Due.same("next(1, " + a + ", " + b + ")", x.next(1, a, b), true);
                Due.same("isReached(2)", x.isReached(2), a == 2 || b == 2);
                Due.same("isReached(3)", x.isReached(3), a == 2 || b == 2 || a == 3 || b == 3);
            }
        }
        for (int a : right) {
            Counted x = points(4);
            x.next(1, 3, -1);
            for (int b : wrong) {
                Due.same("next(1, " + a + ", " + b + ")", x.next(1, a, b), false);
                Due.same("next(1, " + b + ", " + a + ")", x.next(1, b, a), false);
                Due.same("next(1, " + b + ", " + b + ")", x.next(1, b, b), false);
                reached(x, true, true, false, true);
            }
        }
    }

    private static void itIsToldAnew() {
        Counted x = points(5);
        Due.same("next(0, 3, -1)", x.next(0, 3, -1), true);
        reached(x, true, false, false, true, true);
        Due.same("next(0, -1, 2)", x.next(0, -1, 2), true);
        reached(x, true, false, true, true, true);
        Due.same("next(0, 4, 1)", x.next(0, 4, 1), true);
        Due.same("next(1, -1, -1)", x.next(1, -1, -1), true);
        reached(x, true, true, false, false, true);
        Due.same("next(4, 2, 2)", x.next(4, 2, 2), true);
        Due.same("next(2, 0, 2)", x.next(2, 0, 2), true);
        reached(x, true, true, true, false, true);
        Due.same("next(0, -1, -1)", x.next(0, -1, -1), true);
        reached(x, true, false, false, false, false);
    }

    /** -1 is none, not point 0 and not the point behind it. */
    private static void noneIsNone() {
        Counted x = new Counted();
        x.variable(1, false, false);
        x.point(1, 0, 0, 1);
        x.point(1, 0, 0, 1);
        x.point(0, 0, 0, 0);
        x.next(0, -1, -1);
        Due.same("having(0, 0), no way back", x.having(0, 0), 0);
        reached(x, true, false, false);
        x.next(0, -1, 1);
        x.next(1, -1, -1);
        Due.same("having(0, 0), no way back from 1", x.having(0, 0), 0);
        reached(x, true, true, false);
        x.next(1, 0, -1);
        Due.same("having(0, 0), a way back from 1", x.having(0, 0), 1);
        reached(x, true, true, false);
    }

    private static void aPointThatIsNotThereYet() {
        Counted x = points(1);
        Due.same("next(0, 119, 2)", x.next(0, 119, 2), true);
        for (int number = 1; number < 120; number++) {
            Due.same("isReached(" + number + ") too early", x.isReached(number), false);
            x.point(0, 0, 0, 0);
            x.next(number, -1, -1);
            Due.same("isReached(" + number + ")", x.isReached(number), number == 2 || number == 119);
        }
        Due.same("next(119, 1, 119)", x.next(119, 1, 119), true);
        Due.same("isReached(1)", x.isReached(1), true);
        Due.same("count(1)", x.count(1), 4);
    }

    /** As x and as y: a way goes on there once the point is there, not with the one ahead of it in number. */
    private static void everyPointThatIsNotThereYet() {
        for (int later = 1; later < 120; later++) {
            Counted x = new Counted();
            x.variable(1, false, true);
            x.point(0, 0, 0, 0);
            Due.same("next", x.next(0, later % 2 == 0 ? later : -1, later % 2 == 0 ? -1 : later), true);
            for (int number = 1; number < later; number++) {
                x.point(0, 0, 0, 0);
            }
            Due.same("count(1) ahead of " + later, x.count(1), 1);
            Due.same("isReached(" + later + ") too early", x.isReached(later), false);
            Due.same("having(" + later + ", 0) too early", x.having(later, 0), 0);
            Due.same("a refused point", x.point(6, 0, 0, 0), -1);
            Due.same("count(1) after a refused point", x.count(1), 1);
            x.point(3, 0, 0, 1);
            Due.same("count(1) with " + later, x.count(1), 2);
            Due.same("isReached(" + later + ")", x.isReached(later), true);
            Due.same("having(" + later + ", 0)", x.having(later, 0), 1);
        }
    }

    /** clear() takes what was told with the points: what is made anew has the point behind it next. */
    private static void aPointThatIsNotThereAnyMore() {
        Counted x = points(3);
        x.next(0, 2, 119);
        x.next(1, 0, 0);
        x.next(2, -1, -1);
        x.clear();
        Due.same("next(0, 1, 1) without points", x.next(0, 1, 1), false);
        x.point(0, 0, 0, 0);
        Due.same("next(1, 1, 1) with point 0 alone", x.next(1, 1, 1), false);
        Due.same("count(1)", x.count(1), 1);
        for (int number = 1; number < 120; number++) {
            x.point(0, 0, 0, 0);
            Due.same("count(1) with " + number, x.count(1), number + 1);
        }
    }

    private static void reached(Counted x, boolean... due) {
        for (int point = 0; point < due.length; point++) {
            Due.same("isReached(" + point + ")", x.isReached(point), due[point]);
        }
    }
}
