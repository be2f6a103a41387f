/** Promise 2: variable. */
final class Promise02VariableTest {
    public static void main(String[] args) {
        partsAreOneToEight();
        thereAreTwentyAtMost();
        aLateVariableCountsAheadOfAllPoints();
        Due.end();
    }

    private static void partsAreOneToEight() {
        PartsFlow x = new PartsFlow();
        for (int parts : new int[] {0, 9, -1, 10, Integer.MIN_VALUE, Integer.MAX_VALUE}) {
            Due.same("variable(" + parts + ")", x.variable(parts, false, false), -1);
        }
        Due.same("count(4) when all were refused", x.count(4), 0);
        Due.same("count(5) when all were refused", x.count(5), 0);
        x.point(0, 0, 0, 0);
        for (int parts = 1; parts <= 8; parts++) {
            boolean given = parts % 2 == 0;
            Due.same("variable(" + parts + ")", x.variable(parts, false, given), parts - 1);
            int all = (1 << parts) - 1;
            Due.same("without of " + parts, x.without(0, parts - 1), given ? 0 : all);
            Due.same("having of " + parts, x.having(0, parts - 1), given ? all : 0);
        }
    }

    private static void thereAreTwentyAtMost() {
        PartsFlow x = new PartsFlow();
        x.point(0, 0, 0, 0);
        for (int number = 0; number < 20; number++) {
            Due.same("variable " + number, x.variable(8, number % 2 == 0, number % 3 == 0), number);
        }
        Due.same("the 21st", x.variable(1, true, true), -1);
        Due.same("the 22nd", x.variable(8, false, false), -1);
        Due.same("count(4)", x.count(4), 20);
        Due.same("count(5)", x.count(5), 160);
        for (int number = 0; number < 20; number++) {
            Due.same("without(0, " + number + ")", x.without(0, number), number % 3 == 0 ? 0 : 255);
            Due.same("having(0, " + number + ")", x.having(0, number), number % 3 == 0 ? 255 : 0);
        }
        Due.same("having(0, 20)", x.having(0, 20), 0);
        x.clear();
        Due.same("the 21st after clear", x.variable(1, true, true), -1);
    }

    private static void aLateVariableCountsAheadOfAllPoints() {
        PartsFlow x = new PartsFlow();
        x.variable(1, false, false);
        x.point(1, 0, 0, 1);
        x.point(0, 0, 0, 0);
        Due.same("having(1, 0)", x.having(1, 0), 1);
        Due.same("having(1, 1) too early", x.having(1, 1), 0);
        x.variable(3, true, true);
        Due.same("having(1, 1)", x.having(1, 1), 7);
        x.variable(2, true, false);
        Due.same("without(1, 2)", x.without(1, 2), 3);
    }
}
