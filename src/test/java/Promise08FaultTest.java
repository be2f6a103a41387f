/** Promise 8: fault. */
final class Promise08FaultTest {
    public static void main(String[] args) {
        noSuchPoint();
        useAndMove();
        giveOnce();
        giveInParts();
        noWayNoFault();
        Due.end();
    }

    private static void noSuchPoint() {
        PartsFlow x = new PartsFlow();
        Due.same("fault(0) without points", x.fault(0), -1);
        x.point(0, 0, 0, 0);
        Due.same("fault(0)", x.fault(0), 0);
        for (int wrong : new int[] {1, 119, 120, -1, Integer.MIN_VALUE, Integer.MAX_VALUE}) {
            Due.same("fault(" + wrong + ")", x.fault(wrong), -1);
        }
    }

    private static void faults(PartsFlow x, int... due) {
        for (int point = 0; point < due.length; point++) {
            Due.same("fault(" + point + ")", x.fault(point), due[point]);
        }
    }

    private static void useAndMove() {
        PartsFlow x = new PartsFlow();
        x.variable(3, false, false);
        x.point(3, 0, 0, 1);
        x.point(2, 0, 2, 1);
        x.point(1, 0, 0, 2);
        x.point(3, 0, 0, 2);
        x.point(3, 0, 1, 2);
        x.point(2, 0, 0, 1);
        x.point(3, 0, 1, 1);
        x.point(2, 0, 0, 2);
        x.point(2, 0, 1, 1);
        x.point(1, 0, 0, 3);
        x.point(1, 0, 0, 3);
        x.point(4, 0, 0, 0);
        x.point(5, 0, 0, 0);
        faults(x, 1, 1, 0, 0, 1, 0, 0, 1, 1, 0, 0, 0, 0);
    }

    private static void giveOnce() {
        PartsFlow x = new PartsFlow();
        x.variable(2, true, false);
        x.variable(1, true, true);
        x.point(1, 0, 0, 2);
        x.point(1, 0, 0, 2);
        x.point(2, 0, 0, 1);
        x.point(1, 0, 0, 2);
        x.point(2, 0, 0, 2);
        x.point(1, 0, 0, 2);
        x.point(4, 0, 0, 0);
        x.point(1, 0, 0, 2);
        x.point(5, 0, 0, 0);
        x.point(1, 0, 0, 2);
        x.point(1, 1, 0, 1);
        x.point(2, 1, 0, 1);
        x.point(1, 1, 0, 1);
        faults(x, 0, 2, 0, 2, 0, 0, 0, 0, 0, 0, 2, 0, 0);
        PartsFlow loop = new PartsFlow();
        loop.variable(2, true, false);
        loop.point(1, 0, 0, 2);
        loop.next(0, 0, 1);
        Due.same("a give once in a loop", loop.fault(0), 2);
        loop.point(5, 0, 0, 0);
        loop.next(0, 1, -1);
        loop.next(1, 0, -1);
        Due.same("a give once in a loop with an end", loop.fault(0), 0);
    }

    private static void giveInParts() {
        PartsFlow x = new PartsFlow();
        x.variable(8, true, false);
        x.variable(8, false, false);
        x.point(1, 0, 0, 7);
        x.point(1, 0, 1, 7);
        x.point(1, 0, 0, 8);
        x.point(1, 0, 3, 1);
        x.point(1, 1, 0, 7);
        x.point(1, 1, 0, 8);
        faults(x, 3, 3, 2, 3, 0, 0);
    }

    private static void noWayNoFault() {
        PartsFlow x = new PartsFlow();
        x.variable(2, true, false);
        x.point(0, 0, 0, 0);
        x.point(3, 0, 0, 1);
        x.point(2, 0, 0, 1);
        x.point(1, 0, 0, 1);
        x.point(1, 0, 0, 2);
        faults(x, 0, 1, 1, 3, 2);
        x.next(0, -1, -1);
        faults(x, 0, 0, 0, 0, 0);
    }
}
