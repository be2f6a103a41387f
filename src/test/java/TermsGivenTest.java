/** "Ahead of point 0 no part has a value, but those of variables that are GIVEN from the beginning." */
final class TermsGivenTest {
    public static void main(String[] args) {
        everyVariableByItself();
        pointZerosOwnDoingIsBehindIt();
        aWayBackToPointZeroAdds();
        noPointZeroYet();
        Due.end();
    }

    /** The 20 variables in rows of given and not, once with each one of them the odd one out. */
    private static void everyVariableByItself() {
        for (int odd = 0; odd < 20; odd++) {
            for (int others = 0; others < 2; others++) {
                Counted x = new Counted();
                for (int number = 0; number < 20; number++) {
                    x.variable(number % 8 + 1, number % 3 == 0, (number == odd) != (others == 1));
                }
                x.point(0, 0, 0, 0);
                for (int number = 0; number < 20; number++) {
                    int all = (1 << number % 8 + 1) - 1;
                    boolean given = (number == odd) != (others == 1);
                    Due.same("having(0, " + number + ")", x.having(0, number), given ? all : 0);
                    Due.same("without(0, " + number + ")", x.without(0, number), given ? 0 : all);
                }
            }
        }
    }

    private static void pointZerosOwnDoingIsBehindIt() {
        for (int doing = 0; doing <= 5; doing++) {
            for (int given = 0; given < 2; given++) {
                Counted x = new Counted();
                x.variable(8, false, given == 1);
                x.point(doing, 0, 0, 8);
                x.point(0, 0, 0, 0);
                Due.same("having ahead of doing " + doing, x.having(0, 0), given == 1 ? 255 : 0);
                Due.same("without ahead of doing " + doing, x.without(0, 0), given == 1 ? 0 : 255);
                boolean then = doing == 1 || given == 1 && (doing == 0 || doing == 3);
                Due.same("having behind doing " + doing, x.having(1, 0), then ? 255 : 0);
                Due.same("without behind doing " + doing, x.without(1, 0), then ? 0 : 255);
            }
        }
    }

    private static void aWayBackToPointZeroAdds() {
        Counted x = new Counted();
        x.variable(2, false, true);
        x.variable(2, false, false);
        x.point(2, 0, 0, 1);
        x.point(1, 1, 1, 1);
        int[] points = {0};
        int[] variables = {0, 1};
        int[] alone = {2, 2, 0, -1, 2, 4, 1, 0, 0, 3, 3, 0};
        Due.same("no way back", Answers.of(x, points, variables), alone);
        x.next(1, 0, -1);
        Due.same("a way back", Answers.of(x, points, variables), new int[] {2, 2, 1, 0, 2, 4, 1, 1, 1, 3, 3, 2});
        x.next(1, -1, -1);
        Due.same("no way back again", Answers.of(x, points, variables), alone);
    }

    private static void noPointZeroYet() {
        Counted x = new Counted();
        x.variable(8, false, true);
        x.variable(8, false, false);
        for (int variable = 0; variable < 2; variable++) {
            Due.same("having(0, " + variable + ")", x.having(0, variable), 0);
            Due.same("without(0, " + variable + ")", x.without(0, variable), 0);
        }
        x.point(0, 0, 0, 0);
        Due.same("having(0, 0)", x.having(0, 0), 255);
        Due.same("without(0, 1)", x.without(0, 1), 255);
    }
}
