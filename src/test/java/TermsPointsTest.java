/** "POINTS 0, 1, .. (at most 120), each with one DOING and up to two points that can come next." */
final class TermsPointsTest {
    public static void main(String[] args) {
        atMost120();
        everyPointHasItsOwnDoing();
        noneOneOrTwoComeNext();
        everyPointCanComeNextToEvery();
        Due.end();
    }

    private static void atMost120() {
        Counted x = new Counted();
        for (int number = 0; number < 120; number++) {
            Due.same("count(0)", x.count(0), number);
            Due.same("not there yet", x.fault(number), -1);
            Due.same("point", x.point(0, 0, 0, 0), number);
            Due.same("there", x.fault(number), 0);
        }
        Due.same("the 121st", x.point(0, 0, 0, 0), -1);
        Due.same("count(0)", x.count(0), 120);
        Due.same("count(1)", x.count(1), 120);
        Due.same("isReached(119)", x.isReached(119), true);
        Due.same("isReached(120)", x.isReached(120), false);
        Due.same("fault(120)", x.fault(120), -1);
    }

    /** One point of 120 moves; behind it, and nowhere ahead of it, the part is without a value. */
    private static void everyPointHasItsOwnDoing() {
        for (int one = 0; one < 120; one++) {
            Counted x = new Counted();
            x.variable(1, false, true);
            for (int number = 0; number < 120; number++) {
                x.point(number == one ? 2 : 3, 0, 0, 1);
            }
            for (int number = 0; number < 120; number++) {
                Due.same("without(" + number + ") with a move at " + one, x.without(number, 0), number > one ? 1 : 0);
                Due.same("fault(" + number + ") with a move at " + one, x.fault(number), number > one ? 1 : 0);
            }
            Due.same("count(2)", x.count(2), 119 - one);
            Due.same("count(3)", x.count(3), one == 119 ? -1 : one + 1);
        }
    }

    private static void noneOneOrTwoComeNext() {
        int[][] nexts = {{-1, -1}, {1, -1}, {-1, 1}, {3, -1}, {-1, 3}, {1, 3}, {3, 1}, {3, 3}, {0, 0}, {0, 2}, {2, 0}};
        for (int[] n : nexts) {
            Counted x = new Counted();
            for (int number = 0; number < 4; number++) {
                x.point(0, 0, 0, 0);
                x.next(number, -1, -1);
            }
            Due.same("next", x.next(0, n[0], n[1]), true);
            for (int number = 0; number < 4; number++) {
                boolean due = number == 0 || number == n[0] || number == n[1];
                Due.same("isReached(" + number + ") by " + n[0] + ", " + n[1], x.isReached(number), due);
            }
        }
    }

    private static void everyPointCanComeNextToEvery() {
        for (int from = 0; from < 120; from++) {
            Counted x = new Counted();
            x.variable(1, false, false);
            for (int number = 0; number < 120; number++) {
                x.point(number == from ? 1 : 0, 0, 0, 1);
                x.next(number, -1, -1);
            }
            x.next(0, from, -1);
            for (int to = 0; to < 120; to++) {
                x.next(from, to % 2 == 0 ? to : -1, to % 2 == 0 ? -1 : to);
                Due.same("having(" + to + ") by " + from, x.having(to, 0), 1);
            }
        }
    }
}
