/** Promise 2: "One more variable: its number; -1, refused, if parts is not 1 .. 8, or there are 20." */
final class Promise02VariableTest {
    public static void main(String[] args) {
        partsAreOneToEight();
        wrongPartsAtEveryNumber();
        thereAreTwentyAtMost();
        aLateVariableCountsAheadOfAllPoints();
        Due.end();
    }

    private static void partsAreOneToEight() {
        Counted x = new Counted();
        for (int parts : Edge.outside(1, 8)) {
            for (int kind = 0; kind < 4; kind++) {
                Due.same("variable(" + parts + ")", x.variable(parts, kind % 2 == 1, kind / 2 == 1), -1);
            }
        }
        Due.same("count(4) when all were refused", x.count(4), 0);
        Due.same("count(5) when all were refused", x.count(5), 0);
        x.point(0, 0, 0, 0);
        for (int parts = 1; parts <= 8; parts++) {
            boolean given = parts % 2 == 0;
            Due.same("variable(" + parts + ")", x.variable(parts, false, given), parts - 1);
            int all = (1 << parts) - 1;
            Due.same("without of " + parts, x.without(0, parts - 1), given ? 0 : all);
            Due.same("having of " + parts, x.having(0, parts - 1), given ? all : 0);
        }
        Due.same("count(5) of 1 + 2 + .. + 8", x.count(5), 36);
    }

    /** With 0, 1, .. 20 there: 0 and 9 parts and the edges of int are refused, and the next number stays the same. */
    private static void wrongPartsAtEveryNumber() {
        Counted x = new Counted();
        for (int number = 0; number <= 20; number++) {
            for (int parts : new int[] {0, 9, -1, Edge.LOW, Edge.HIGH}) {
                Due.same("variable(" + parts + ") at " + number, x.variable(parts, true, true), -1);
            }
            Due.same("variables at " + number, x.count(4), number);
            Due.same("parts at " + number, x.count(5), number / 2 * 9 + number % 2);
            int due = number < 20 ? number : -1;
            Due.same("a right one at " + number, x.variable(number % 2 == 0 ? 1 : 8, true, true), due);
        }
    }

    private static void thereAreTwentyAtMost() {
        Counted x = new Counted();
        x.point(0, 0, 0, 0);
        for (int number = 0; number < 20; number++) {
            Due.same("variable " + number, x.variable(8, number % 2 == 0, number % 3 == 0), number);
        }
        for (int parts = 1; parts <= 8; parts++) {
            for (int kind = 0; kind < 4; kind++) {
                Due.same("one more of " + parts, x.variable(parts, kind % 2 == 1, kind / 2 == 1), -1);
            }
        }
        Due.same("count(4)", x.count(4), 20);
        Due.same("count(5)", x.count(5), 160);
        for (int number = 0; number < 20; number++) {
            Due.same("without(0, " + number + ")", x.without(0, number), number % 3 == 0 ? 0 : 255);
            Due.same("having(0, " + number + ")", x.having(0, number), number % 3 == 0 ? 255 : 0);
            x.point(1, number, 0, 7);
            Due.same("once of " + number, x.fault(number + 1), number % 2 == 0 ? 3 : 0);
        }
        Due.same("having(0, 20)", x.having(0, 20), 0);
        Due.same("a point of 20", x.point(4, 20, 0, 0), -1);
        x.clear();
        Due.same("the 21st after clear", x.variable(1, true, true), -1);
    }

    private static void aLateVariableCountsAheadOfAllPoints() {
        Counted x = new Counted();
        x.variable(1, false, false);
        x.point(1, 0, 0, 1);
        x.point(0, 0, 0, 0);
        Due.same("having(1, 0)", x.having(1, 0), 1);
        Due.same("having(1, 1) too early", x.having(1, 1), 0);
        x.variable(3, true, true);
        Due.same("having(1, 1)", x.having(1, 1), 7);
        x.variable(2, true, false);
        Due.same("without(1, 2)", x.without(1, 2), 3);
        Due.same("having(1, 0) still", x.having(1, 0), 1);
    }
}
