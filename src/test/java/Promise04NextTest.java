/** Promise 4: next. */
final class Promise04NextTest {
    public static void main(String[] args) {
        wrongInputsAreRefused();
        itIsToldAnew();
        aPointThatIsNotThereYet();
        Due.end();
    }

    private static PartsFlow points(int many) {
        PartsFlow x = new PartsFlow();
        for (int number = 0; number < many; number++) {
            x.point(0, 0, 0, 0);
        }
        return x;
    }

    private static void wrongInputsAreRefused() {
        PartsFlow x = points(3);
        int[][] wrong = {
            {3, 0, 1}, {-1, 0, 1}, {119, 0, 1}, {120, 0, 1}, {Integer.MAX_VALUE, 0, 0}, {Integer.MIN_VALUE, 0, 0},
            {0, -2, -1}, {0, -1, -2}, {0, 120, -1}, {0, -1, 120}, {0, 0, Integer.MAX_VALUE},
            {0, Integer.MIN_VALUE, 0}, {0, Integer.MAX_VALUE, 0}, {0, 0, Integer.MIN_VALUE},
        };
        for (int[] w : wrong) {
            String call = "next(" + w[0] + ", " + w[1] + ", " + w[2] + ")";
            Due.same(call, x.next(w[0], w[1], w[2]), false);
            Due.same("count(1) after " + call, x.count(1), 3);
        }
    }

    private static void itIsToldAnew() {
        PartsFlow x = points(5);
        Due.same("next(0, 3, -1)", x.next(0, 3, -1), true);
        reached(x, true, false, false, true, true);
        Due.same("next(0, -1, 2)", x.next(0, -1, 2), true);
        reached(x, true, false, true, true, true);
        Due.same("next(0, 4, 1)", x.next(0, 4, 1), true);
        Due.same("next(1, -1, -1)", x.next(1, -1, -1), true);
        reached(x, true, true, false, false, true);
        Due.same("next(4, 2, 2)", x.next(4, 2, 2), true);
        Due.same("next(2, 0, 2)", x.next(2, 0, 2), true);
        reached(x, true, true, true, false, true);
        Due.same("next(0, -1, -1)", x.next(0, -1, -1), true);
        reached(x, true, false, false, false, false);
    }

    private static void aPointThatIsNotThereYet() {
        PartsFlow x = points(1);
        Due.same("next(0, 119, 2)", x.next(0, 119, 2), true);
        for (int number = 1; number < 120; number++) {
            Due.same("isReached(" + number + ") too early", x.isReached(number), false);
            x.point(0, 0, 0, 0);
            x.next(number, -1, -1);
            Due.same("isReached(" + number + ")", x.isReached(number), number == 2 || number == 119);
        }
        Due.same("next(119, 1, 119)", x.next(119, 1, 119), true);
        Due.same("isReached(1)", x.isReached(1), true);
        Due.same("count(1)", x.count(1), 4);
    }

    private static void reached(PartsFlow x, boolean... due) {
        for (int point = 0; point < due.length; point++) {
            Due.same("isReached(" + point + ")", x.isReached(point), due[point]);
        }
    }
}
