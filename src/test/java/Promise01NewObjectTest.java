/** Promise 1: "No variables, no points." */
final class Promise01NewObjectTest {
    public static void main(String[] args) {
        nothingIsThere();
        nothingTakesAVariableOrAPoint();
        theFirstOnesAreNumberZero();
        objectsShareNothing();
        Due.end();
    }

    private static int[] everyInt() {
        return new int[] {Edge.LOW, -120, -20, -2, -1, 0, 1, 19, 20, 119, 120, Edge.HIGH};
    }

    private static void isEmpty(Counted x) {
        int[] counts = {0, 0, 0, -1, 0, 0};
        for (int what = 0; what < counts.length; what++) {
            Due.same("count(" + what + ")", x.count(what), counts[what]);
        }
        for (int number : everyInt()) {
            Due.same("isReached(" + number + ")", x.isReached(number), false);
            Due.same("fault(" + number + ")", x.fault(number), -1);
            Due.same("next(" + number + ", -1, -1)", x.next(number, -1, -1), false);
            Due.same("without(0, " + number + ")", x.without(0, number), 0);
            Due.same("without(" + number + ", 0)", x.without(number, 0), 0);
            Due.same("having(0, " + number + ")", x.having(0, number), 0);
            Due.same("having(" + number + ", 0)", x.having(number, 0), 0);
        }
    }

    private static void nothingIsThere() {
        isEmpty(new Counted());
        Due.same("the first call: clear()", new Counted().clear(), 0);
        Due.same("the first call: isReached(0)", new Counted().isReached(0), false);
        Due.same("the first call: without(0, 0)", new Counted().without(0, 0), 0);
        Due.same("the first call: having(0, 0)", new Counted().having(0, 0), 0);
        Due.same("the first call: fault(0)", new Counted().fault(0), -1);
        Due.same("the first call: next(0, 0, 0)", new Counted().next(0, 0, 0), false);
    }

    private static void nothingTakesAVariableOrAPoint() {
        Counted x = new Counted();
        for (int doing = 1; doing <= 5; doing++) {
            for (int variable : everyInt()) {
                Due.same("point(" + doing + ", " + variable + ", 0, 1)", x.point(doing, variable, 0, 1), -1);
            }
        }
        isEmpty(x);
    }

    private static void theFirstOnesAreNumberZero() {
        Counted x = new Counted();
        Due.same("the first variable", x.variable(1, false, false), 0);
        Due.same("the first point", x.point(1, 0, 0, 1), 0);
        Counted y = new Counted();
        Due.same("the first point without variables", y.point(0, 0, 0, 0), 0);
        Due.same("the first variable behind a point", y.variable(8, true, true), 0);
    }

    private static void objectsShareNothing() {
        Counted full = new Counted();
        for (int number = 0; number < 20; number++) {
            full.variable(8, true, true);
        }
        for (int number = 0; number < 120; number++) {
            full.point(1, 0, 0, 8);
        }
        isEmpty(new Counted());
        Due.same("the other's points", full.count(0), 120);
        Due.same("the other's variables", full.count(4), 20);
        Due.same("the other's faults", full.count(2), 120);
        Counted other = new Counted();
        other.variable(1, false, false);
        other.point(0, 0, 0, 0);
        Due.same("without of the one", other.without(0, 0), 1);
        Due.same("having of the other", full.having(0, 0), 255);
    }
}
