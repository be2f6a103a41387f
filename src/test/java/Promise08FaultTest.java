/** Promise 8: "The fault of a point: 0 none, 1 to 3; -1 if it is no point." */
final class Promise08FaultTest {
    public static void main(String[] args) {
        noSuchPoint();
        noPointAndNoWay();
        useAndMove();
        giveOnce();
        giveInParts();
        noWayNoFault();
        Due.end();
    }

    /** With none, one and all points there: the last answers 0 to 3, the first behind it and those ahead of 0 -1. */
    private static void noSuchPoint() {
        for (int many : new int[] {0, 1, 2, 119, 120}) {
            Counted x = new Counted();
            x.variable(2, true, false);
            for (int number = 0; number < many; number++) {
                x.point(number == many - 1 ? 1 : 0, 0, 0, 1);
            }
            for (int point : Edge.outside(0, many - 1)) {
                Due.same("fault(" + point + ") of " + many, x.fault(point), -1);
            }
            for (int point = 0; point < many; point++) {
                Due.same("fault(" + point + ") of " + many, x.fault(point), point == many - 1 ? 3 : 0);
            }
            x.clear();
            Due.same("fault(0) after clear", x.fault(0), -1);
            Due.same("fault of the last after clear", x.fault(many - 1), -1);
        }
    }

    /** No point is -1, and a point that no way comes to is 0. */
    private static void noPointAndNoWay() {
        Counted x = new Counted();
        x.variable(1, false, false);
        x.point(0, 0, 0, 0);
        x.next(0, -1, -1);
        Due.same("fault(1), no point yet", x.fault(1), -1);
        x.point(3, 0, 0, 1);
        Due.same("fault(1), no way comes to it", x.fault(1), 0);
        x.next(0, 1, -1);
        Due.same("fault(1), a way comes to it", x.fault(1), 1);
    }

    private static void faults(Counted x, int... due) {
        for (int point = 0; point < due.length; point++) {
            Due.same("fault(" + point + ")", x.fault(point), due[point]);
        }
    }

    private static void useAndMove() {
        Counted x = new Counted();
        x.variable(3, false, false);
        x.point(3, 0, 0, 1);
        x.point(2, 0, 2, 1);
        x.point(1, 0, 0, 2);
        x.point(3, 0, 0, 2);
        x.point(3, 0, 1, 2);
        x.point(2, 0, 0, 1);
        x.point(3, 0, 1, 1);
        x.point(2, 0, 0, 2);
        x.point(2, 0, 1, 1);
        x.point(1, 0, 0, 3);
        x.point(1, 0, 0, 3);
        x.point(4, 0, 0, 0);
        x.point(5, 0, 0, 0);
        faults(x, 1, 1, 0, 0, 1, 0, 0, 1, 1, 0, 0, 0, 0);
    }

    private static void giveOnce() {
        Counted x = new Counted();
        x.variable(2, true, false);
        x.variable(1, true, true);
        x.point(1, 0, 0, 2);
        x.point(1, 0, 0, 2);
        x.point(2, 0, 0, 1);
        x.point(1, 0, 0, 2);
        x.point(2, 0, 0, 2);
        x.point(1, 0, 0, 2);
        x.point(4, 0, 0, 0);
        x.point(1, 0, 0, 2);
        x.point(5, 0, 0, 0);
        x.point(1, 0, 0, 2);
        x.point(1, 1, 0, 1);
        x.point(2, 1, 0, 1);
        x.point(1, 1, 0, 1);
        faults(x, 0, 2, 0, 2, 0, 0, 0, 0, 0, 0, 2, 0, 0);
        Counted loop = new Counted();
        loop.variable(2, true, false);
        loop.point(1, 0, 0, 2);
        loop.next(0, 0, 1);
        Due.same("a give once in a loop", loop.fault(0), 2);
        loop.point(5, 0, 0, 0);
        loop.next(0, 1, -1);
        loop.next(1, 0, -1);
        Due.same("a give once in a loop with an end", loop.fault(0), 0);
    }

    private static void giveInParts() {
        Counted x = new Counted();
        x.variable(8, true, false);
        x.variable(8, false, false);
        x.point(1, 0, 0, 7);
        x.point(1, 0, 1, 7);
        x.point(1, 0, 0, 8);
        x.point(1, 0, 3, 1);
        x.point(1, 1, 0, 7);
        x.point(1, 1, 0, 8);
        faults(x, 3, 3, 2, 3, 0, 0);
    }

    private static void noWayNoFault() {
        Counted x = new Counted();
        x.variable(2, true, false);
        x.point(0, 0, 0, 0);
        x.point(3, 0, 0, 1);
        x.point(2, 0, 0, 1);
        x.point(1, 0, 0, 1);
        x.point(1, 0, 0, 2);
        faults(x, 0, 1, 1, 3, 2);
        x.next(0, -1, -1);
        faults(x, 0, 0, 0, 0, 0);
    }
}
