/** Promise 7: having. */
final class Promise07HavingTest {
    public static void main(String[] args) {
        noSuchPointOrVariable();
        alongOneWay();
        byAllWays();
        wholeFlowOf160Parts();
        Due.end();
    }

    private static void noSuchPointOrVariable() {
        PartsFlow x = new PartsFlow();
        x.variable(8, false, true);
        x.point(0, 0, 0, 0);
        x.point(0, 0, 0, 0);
        for (int wrong : new int[] {2, 20, 119, 120, -1, Integer.MIN_VALUE, Integer.MAX_VALUE}) {
            Due.same("having(" + wrong + ", 0)", x.having(wrong, 0), 0);
            Due.same("having(0, " + wrong + ")", x.having(0, wrong), 0);
        }
        Due.same("having(0, 0)", x.having(0, 0), 255);
        x.next(0, -1, -1);
        Due.same("having(1, 0), no way comes to it", x.having(1, 0), 0);
    }

    private static void alongOneWay() {
        PartsFlow x = new PartsFlow();
        x.variable(4, false, false);
        x.variable(4, true, true);
        x.point(1, 0, 1, 2);
        x.point(2, 0, 1, 1);
        x.point(3, 0, 0, 4);
        x.point(4, 1, 0, 0);
        x.point(1, 1, 1, 3);
        x.point(5, 1, 0, 0);
        x.point(0, 0, 0, 0);
        int[] first = {0, 6, 4, 4, 4, 4, 4};
        int[] second = {15, 15, 15, 15, 0, 14, 0};
        for (int point = 0; point < first.length; point++) {
            Due.same("having(" + point + ", 0)", x.having(point, 0), first[point]);
            Due.same("having(" + point + ", 1)", x.having(point, 1), second[point]);
        }
    }

    private static void byAllWays() {
        PartsFlow x = new PartsFlow();
        x.variable(3, false, false);
        x.point(0, 0, 0, 0);
        x.point(1, 0, 0, 1);
        x.point(1, 0, 2, 1);
        x.point(0, 0, 0, 0);
        x.next(0, 1, 2);
        x.next(1, 3, -1);
        Due.same("having where two ways meet", x.having(3, 0), 5);
        Due.same("without where two ways meet", x.without(3, 0), 7);
        x.next(3, 0, -1);
        Due.same("having(0, 0) round the loop", x.having(0, 0), 5);
        x.next(0, 2, -1);
        Due.same("having where one is gone", x.having(3, 0), 4);
    }

    private static void wholeFlowOf160Parts() {
        PartsFlow x = new PartsFlow();
        for (int variable = 0; variable < 20; variable++) {
            x.variable(8, false, false);
        }
        for (int variable = 0; variable < 20; variable++) {
            x.point(1, variable, variable % 8, 1);
        }
        x.point(0, 0, 0, 0);
        for (int variable = 0; variable < 20; variable++) {
            int bit = 1 << variable % 8;
            Due.same("having(20, " + variable + ")", x.having(20, variable), bit);
            Due.same("without(20, " + variable + ")", x.without(20, variable), 255 - bit);
            Due.same("having ahead of its give " + variable, x.having(variable, variable), 0);
        }
    }
}
