/** Promise 3: point. */
final class Promise03PointTest {
    private static final int LOW = Integer.MIN_VALUE;
    private static final int HIGH = Integer.MAX_VALUE;

    public static void main(String[] args) {
        wrongInputsAreRefused();
        whatIsNotLookedAtMayBeAnything();
        allPartsFromEachOn();
        thereAre120AtMost();
        theNextIsTheOneBehind();
        Due.end();
    }

    private static void wrongInputsAreRefused() {
        PartsFlow x = new PartsFlow();
        x.variable(3, false, false);
        x.variable(8, false, true);
        int[][] wrong = {
            {-1, 0, 0, 1}, {6, 0, 0, 1}, {LOW, 0, 0, 1}, {HIGH, 0, 0, 1},
            {1, 2, 0, 1}, {2, -1, 0, 1}, {3, LOW, 0, 1}, {4, 2, 0, 1}, {5, -1, 0, 1}, {4, HIGH, 0, 1},
            {1, 0, -1, 1}, {1, 0, -1, 2}, {2, 0, 3, 1}, {3, 0, 0, 4}, {1, 0, 2, 2}, {2, 0, 1, 3},
            {3, 0, 0, 0}, {1, 0, 1, -1}, {1, 0, 3, 0}, {2, 0, 4, -1},
            {1, 0, HIGH, 1}, {1, 0, HIGH, HIGH}, {2, 0, 1, HIGH}, {3, 0, LOW, 1}, {3, 0, LOW, LOW},
            {1, 0, 0, LOW}, {1, 0, HIGH, LOW}, {2, 0, LOW, HIGH}, {1, 1, 0, 9}, {1, 1, 8, 1}, {1, 1, 0, 32},
        };
        for (int[] w : wrong) {
            String call = "point(" + w[0] + ", " + w[1] + ", " + w[2] + ", " + w[3] + ")";
            Due.same(call, x.point(w[0], w[1], w[2], w[3]), -1);
            Due.same("count(0) after " + call, x.count(0), 0);
        }
        Due.same("a right one after the wrong ones", x.point(1, 0, 0, 3), 0);
        Due.same("wrong behind a right one", x.point(2, 0, 0, 4), -1);
        Due.same("the next right one", x.point(3, 0, 2, 1), 1);
        Due.same("having(1, 0)", x.having(1, 0), 7);
    }

    private static void whatIsNotLookedAtMayBeAnything() {
        PartsFlow x = new PartsFlow();
        Due.same("nothing without variables", x.point(0, HIGH, LOW, HIGH), 0);
        Due.same("nothing of -1", x.point(0, -1, -1, -1), 1);
        x.variable(2, false, true);
        Due.same("nothing of 0", x.point(0, 0, 0, 1), 2);
        Due.same("begin", x.point(4, 0, LOW, HIGH), 3);
        Due.same("end", x.point(5, 0, HIGH, LOW), 4);
        Due.same("behind nothing", x.having(3, 0), 3);
        Due.same("behind begin", x.without(4, 0), 3);
    }

    private static void allPartsFromEachOn() {
        for (int parts = 1; parts <= 8; parts++) {
            PartsFlow x = new PartsFlow();
            x.variable(parts, false, false);
            for (int part = 0; part < parts; part++) {
                for (int many = 1; part + many <= parts; many++) {
                    x.clear();
                    Due.same("give", x.point(1, 0, part, many), 0);
                    Due.same("one more", x.point(0, 0, 0, 0), 1);
                    int bits = ((1 << many) - 1) << part;
                    Due.same("having of " + part + " " + many, x.having(1, 0), bits);
                    Due.same("without of " + part + " " + many, x.without(1, 0), ((1 << parts) - 1) & ~bits);
                }
            }
        }
    }

    private static void thereAre120AtMost() {
        PartsFlow x = new PartsFlow();
        x.variable(1, false, false);
        for (int number = 0; number < 120; number++) {
            Due.same("point " + number, x.point(number == 0 ? 1 : 3, 0, 0, 1), number);
        }
        Due.same("the 121st", x.point(0, 0, 0, 0), -1);
        Due.same("the 121st, a move", x.point(2, 0, 0, 1), -1);
        Due.same("count(0)", x.count(0), 120);
        Due.same("count(1)", x.count(1), 120);
        Due.same("count(2)", x.count(2), 0);
        Due.same("having(119, 0)", x.having(119, 0), 1);
        Due.same("fault(120)", x.fault(120), -1);
    }

    private static void theNextIsTheOneBehind() {
        PartsFlow x = new PartsFlow();
        for (int number = 0; number < 4; number++) {
            x.point(0, 0, 0, 0);
        }
        x.next(1, -1, -1);
        Due.same("isReached(1)", x.isReached(1), true);
        Due.same("isReached(2)", x.isReached(2), false);
        Due.same("isReached(3)", x.isReached(3), false);
        x.next(0, 2, -1);
        Due.same("isReached(1) left out", x.isReached(1), false);
        Due.same("isReached(3) by 2", x.isReached(3), true);
    }
}
