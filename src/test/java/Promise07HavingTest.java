/** Promise 7: "Those that may have one.": read with promise 6, so 0 for no such point or variable. */
final class Promise07HavingTest {
    public static void main(String[] args) {
        noSuchPointOrVariable();
        noWayComesToIt();
        bitsOfEachPart();
        alongOneWay();
        byAllWays();
        wholeFlowOf160Parts();
        Due.end();
    }

    /** With none, one and all points and variables there: the last of each answers, the first behind it does not. */
    private static void noSuchPointOrVariable() {
        for (int points : new int[] {0, 1, 2, 120}) {
            for (int variables : new int[] {0, 1, 2, 20}) {
                Counted x = new Counted();
                for (int number = 0; number < variables; number++) {
                    x.variable(8, false, true);
                }
                for (int number = 0; number < points; number++) {
                    x.point(0, 0, 0, 0);
                }
                for (int point : Edge.outside(0, points - 1)) {
                    Due.same("having(" + point + ", 0)", x.having(point, 0), 0);
                    Due.same("having(" + point + ", last)", x.having(point, variables - 1), 0);
                    Due.same("having(" + point + ", same)", x.having(point, point), 0);
                }
                for (int variable : Edge.outside(0, variables - 1)) {
                    Due.same("having(0, " + variable + ")", x.having(0, variable), 0);
                    Due.same("having(last, " + variable + ")", x.having(points - 1, variable), 0);
                }
                int due = points > 0 && variables > 0 ? 255 : 0;
                Due.same("having(0, 0)", x.having(0, 0), due);
                Due.same("having of the last", x.having(points - 1, variables - 1), due);
                Due.same("having of the last", x.having(0, variables - 1), due);
                Due.same("having of the last", x.having(points - 1, 0), due);
            }
        }
    }

    private static void noWayComesToIt() {
        Counted x = new Counted();
        x.variable(8, false, true);
        x.point(0, 0, 0, 0);
        x.point(0, 0, 0, 0);
        Due.same("having(1, 0)", x.having(1, 0), 255);
        x.next(0, -1, -1);
        Due.same("having(1, 0), no way comes to it", x.having(1, 0), 0);
        Due.same("having(0, 0)", x.having(0, 0), 255);
    }

    /** Bits of the variable's parts alone, the lowest for part 0. */
    private static void bitsOfEachPart() {
        for (int parts = 1; parts <= 8; parts++) {
            for (int part = 0; part < parts; part++) {
                Counted x = new Counted();
                x.variable(8, false, true);
                x.variable(parts, false, false);
                x.variable(8, false, true);
                x.point(1, 1, part, 1);
                x.point(0, 0, 0, 0);
                Due.same("having(0, 1)", x.having(0, 1), 0);
                Due.same("having(1, 1) of part " + part + " of " + parts, x.having(1, 1), 1 << part);
                Due.same("having(1, 0)", x.having(1, 0), 255);
                Due.same("having(1, 2)", x.having(1, 2), 255);
            }
        }
    }

    private static void alongOneWay() {
        Counted x = new Counted();
        x.variable(4, false, false);
        x.variable(4, true, true);
        x.point(1, 0, 1, 2);
        x.point(2, 0, 1, 1);
        x.point(3, 0, 0, 4);
        x.point(4, 1, 0, 0);
        x.point(1, 1, 1, 3);
        x.point(5, 1, 0, 0);
        x.point(0, 0, 0, 0);
        int[] first = {0, 6, 4, 4, 4, 4, 4};
        int[] second = {15, 15, 15, 15, 0, 14, 0};
        for (int point = 0; point < first.length; point++) {
            Due.same("having(" + point + ", 0)", x.having(point, 0), first[point]);
            Due.same("having(" + point + ", 1)", x.having(point, 1), second[point]);
        }
    }

    private static void byAllWays() {
        Counted x = new Counted();
        x.variable(3, false, false);
        x.point(0, 0, 0, 0);
        x.point(1, 0, 0, 1);
        x.point(1, 0, 2, 1);
        x.point(0, 0, 0, 0);
        x.next(0, 1, 2);
        x.next(1, 3, -1);
        Due.same("having where two ways meet", x.having(3, 0), 5);
        Due.same("without where two ways meet", x.without(3, 0), 7);
        x.next(3, 0, -1);
        Due.same("having(0, 0) round the loop", x.having(0, 0), 5);
        x.next(0, 2, -1);
        Due.same("having where one is gone", x.having(3, 0), 4);
    }

    private static void wholeFlowOf160Parts() {
        Counted x = new Counted();
        for (int variable = 0; variable < 20; variable++) {
            x.variable(8, false, false);
        }
        for (int variable = 0; variable < 20; variable++) {
            x.point(1, variable, variable % 8, 1);
        }
        x.point(0, 0, 0, 0);
        for (int variable = 0; variable < 20; variable++) {
            int bit = 1 << variable % 8;
            Due.same("having(20, " + variable + ")", x.having(20, variable), bit);
            Due.same("without(20, " + variable + ")", x.without(20, variable), 255 - bit);
            Due.same("having ahead of its give " + variable, x.having(variable, variable), 0);
        }
    }
}
