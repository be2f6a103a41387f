/**
 * Promise 6: "The parts of a variable that may be without a value ahead of a point, as bits; 0 for no such point or
 * variable."
 */
final class Promise06WithoutTest {
    public static void main(String[] args) {
        noSuchPointOrVariable();
        noWayComesToIt();
        bitsOfEachPart();
        alongOneWay();
        byAllWays();
        roundALoop();
        Due.end();
    }

    /** With none, one and all points and variables there: the last of each answers, the first behind it does not. */
    private static void noSuchPointOrVariable() {
        for (int points : new int[] {0, 1, 2, 120}) {
            for (int variables : new int[] {0, 1, 2, 20}) {
                Counted x = new Counted();
                for (int number = 0; number < variables; number++) {
                    x.variable(8, false, false);
                }
                for (int number = 0; number < points; number++) {
                    x.point(0, 0, 0, 0);
                }
                for (int point : Edge.outside(0, points - 1)) {
                    Due.same("without(" + point + ", 0)", x.without(point, 0), 0);
                    Due.same("without(" + point + ", last)", x.without(point, variables - 1), 0);
                    Due.same("without(" + point + ", same)", x.without(point, point), 0);
                }
                for (int variable : Edge.outside(0, variables - 1)) {
                    Due.same("without(0, " + variable + ")", x.without(0, variable), 0);
                    Due.same("without(last, " + variable + ")", x.without(points - 1, variable), 0);
                }
                int due = points > 0 && variables > 0 ? 255 : 0;
                Due.same("without(0, 0)", x.without(0, 0), due);
                Due.same("without of the last", x.without(points - 1, variables - 1), due);
                Due.same("without of the last", x.without(0, variables - 1), due);
                Due.same("without of the last", x.without(points - 1, 0), due);
            }
        }
    }

    private static void noWayComesToIt() {
        Counted x = new Counted();
        x.variable(8, false, false);
        x.point(0, 0, 0, 0);
        x.point(0, 0, 0, 0);
        Due.same("without(1, 0)", x.without(1, 0), 255);
        x.next(0, -1, -1);
        Due.same("without(1, 0), no way comes to it", x.without(1, 0), 0);
        Due.same("without(0, 0)", x.without(0, 0), 255);
    }

    /** Bits of the variable's parts alone, the lowest for part 0. */
    private static void bitsOfEachPart() {
        for (int parts = 1; parts <= 8; parts++) {
            for (int part = 0; part < parts; part++) {
                Counted x = new Counted();
                x.variable(8, false, false);
                x.variable(parts, false, true);
                x.variable(8, false, false);
                x.point(2, 1, part, 1);
                x.point(0, 0, 0, 0);
                Due.same("without(0, 1)", x.without(0, 1), 0);
                Due.same("without(1, 1) of part " + part + " of " + parts, x.without(1, 1), 1 << part);
                Due.same("without(1, 0)", x.without(1, 0), 255);
                Due.same("without(1, 2)", x.without(1, 2), 255);
            }
        }
    }

    private static void alongOneWay() {
        Counted x = new Counted();
        x.variable(4, false, false);
        x.variable(4, false, true);
        x.point(1, 0, 1, 2);
        x.point(2, 0, 1, 1);
        x.point(3, 0, 0, 4);
        x.point(4, 1, 0, 0);
        x.point(1, 1, 0, 4);
        x.point(5, 1, 0, 0);
        x.point(0, 0, 0, 0);
        int[] first = {15, 9, 11, 11, 11, 11, 11};
        int[] second = {0, 0, 0, 0, 15, 0, 15};
        for (int point = 0; point < first.length; point++) {
            Due.same("without(" + point + ", 0)", x.without(point, 0), first[point]);
            Due.same("without(" + point + ", 1)", x.without(point, 1), second[point]);
        }
    }

    private static void byAllWays() {
        Counted x = new Counted();
        x.variable(3, false, true);
        x.point(0, 0, 0, 0);
        x.point(2, 0, 0, 1);
        x.point(2, 0, 2, 1);
        x.point(0, 0, 0, 0);
        x.next(0, 1, 2);
        x.next(1, 3, -1);
        Due.same("without where two ways meet", x.without(3, 0), 5);
        x.next(0, 2, -1);
        Due.same("without where one is gone", x.without(3, 0), 4);
        x.next(1, 3, 2);
        Due.same("without by a point that no way comes to", x.without(3, 0), 4);
    }

    private static void roundALoop() {
        Counted x = new Counted();
        x.variable(2, false, true);
        x.point(3, 0, 0, 2);
        x.point(2, 0, 1, 1);
        Due.same("without(0, 0) ahead of the loop", x.without(0, 0), 0);
        x.next(1, 0, -1);
        Due.same("without(0, 0) in the loop", x.without(0, 0), 2);
        Due.same("having(0, 0) in the loop", x.having(0, 0), 3);
        Due.same("fault(0) in the loop", x.fault(0), 1);
    }
}
