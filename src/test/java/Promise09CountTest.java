/**
 * Promise 9: "0 points, 1 that a way comes to, 2 with a fault, 3 the first of these (-1: none), 4 variables, 5 parts;
 * -1 for another what."
 */
final class Promise09CountTest {
    public static void main(String[] args) {
        eachWhatByItself();
        anotherWhat();
        theFirstWithAFault();
        noneAndAll();
        theFirstMovesOn();
        Due.end();
    }

    private static void counts(Counted x, int... due) {
        for (int what = 0; what < due.length; what++) {
            Due.same("count(" + what + ")", x.count(what), due[what]);
        }
    }

    private static void eachWhatByItself() {
        Counted x = new Counted();
        counts(x, 0, 0, 0, -1, 0, 0);
        x.variable(3, false, false);
        x.variable(8, true, true);
        counts(x, 0, 0, 0, -1, 2, 11);
        x.point(0, 0, 0, 0);
        x.point(3, 0, 0, 1);
        x.point(1, 1, 0, 8);
        x.point(1, 1, 0, 1);
        x.point(3, 1, 0, 8);
        counts(x, 5, 5, 3, 1, 2, 11);
        x.next(0, 2, -1);
        counts(x, 5, 4, 2, 2, 2, 11);
        x.next(0, 3, -1);
        counts(x, 5, 3, 1, 3, 2, 11);
        x.next(0, 4, -1);
        counts(x, 5, 2, 0, -1, 2, 11);
        x.clear();
        x.point(3, 0, 0, 3);
        counts(x, 1, 1, 1, 0, 2, 11);
    }

    /** In an object where no count is -1, so that one of them taken for another what would show. */
    private static void anotherWhat() {
        Counted empty = new Counted();
        Counted x = new Counted();
        x.variable(2, false, false);
        x.point(3, 0, 0, 1);
        for (int what : Edge.outside(0, 5)) {
            Due.same("count(" + what + ") of a new object", empty.count(what), -1);
            Due.same("count(" + what + ")", x.count(what), -1);
        }
        counts(empty, 0, 0, 0, -1, 0, 0);
        counts(x, 1, 1, 1, 0, 1, 2);
    }

    /** One point of 120 with a fault, of each kind, at every number: 0 is the first, not none; 119 is the last. */
    private static void theFirstWithAFault() {
        for (int one = 0; one < 120; one++) {
            for (int kind = 1; kind <= 3; kind++) {
                Counted x = new Counted();
                x.variable(2, true, kind == 2);
                for (int number = 0; number < 120; number++) {
                    x.point(number != one ? 0 : kind == 1 ? 3 : 1, 0, 0, kind == 3 ? 1 : 2);
                }
                counts(x, 120, 120, 1, one, 1, 2);
                if (one > 0) {
                    x.next(one - 1, -1, -1);
                    counts(x, 120, one, 0, -1, 1, 2);
                }
            }
        }
    }

    private static void noneAndAll() {
        Counted x = new Counted();
        for (int number = 0; number < 20; number++) {
            x.variable(8, false, false);
        }
        counts(x, 0, 0, 0, -1, 20, 160);
        for (int number = 0; number < 120; number++) {
            x.point(2, number % 20, 7, 1);
        }
        counts(x, 120, 120, 120, 0, 20, 160);
        x.point(2, 0, 0, 1);
        x.variable(1, false, false);
        counts(x, 120, 120, 120, 0, 20, 160);
        x.next(0, -1, -1);
        counts(x, 120, 1, 1, 0, 20, 160);
        x.clear();
        counts(x, 0, 0, 0, -1, 20, 160);
    }

    /** All have a fault; the way goes over more and more of them, and the first one that it comes to is told. */
    private static void theFirstMovesOn() {
        Counted x = new Counted();
        x.variable(1, false, false);
        x.point(0, 0, 0, 0);
        for (int number = 1; number < 120; number++) {
            x.point(3, 0, 0, 1);
        }
        for (int first = 1; first < 120; first++) {
            x.next(0, first, -1);
            Due.same("count(3) from " + first, x.count(3), first);
            Due.same("count(2) from " + first, x.count(2), 120 - first);
        }
        x.next(0, -1, -1);
        counts(x, 120, 1, 0, -1, 1, 1);
    }
}
