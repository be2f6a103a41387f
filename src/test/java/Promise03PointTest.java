/**
 * Promise 3: "One more point, the next in number: its number; -1, refused, if there is no such doing, variable (not
 * of 0), no such parts (of 1 to 3: part from 0 on, at least 1 of them), or room. Next to it can come the point behind
 * it in number, and no other, till next()."
 */
final class Promise03PointTest {
    private static final int LOW = Edge.LOW;
    private static final int HIGH = Edge.HIGH;

    public static void main(String[] args) {
        noSuchDoing();
        noSuchVariable();
        notOfZero();
        noSuchParts();
        aSumThatWouldWrapAround();
        everyPartAndNumber();
        noRoom();
        theNextIsTheOneBehind();
        andNoOther();
        Due.end();
    }

    private static String call(int doing, int variable, int part, int many) {
        return "point(" + doing + ", " + variable + ", " + part + ", " + many + ")";
    }

    private static void noSuchDoing() {
        Counted x = new Counted();
        x.variable(8, false, false);
        for (int doing : Edge.outside(0, 5)) {
            Due.same(call(doing, 0, 0, 1), x.point(doing, 0, 0, 1), -1);
            Due.same("points after it", x.count(0), 0);
        }
        for (int doing = 0; doing <= 5; doing++) {
            Due.same(call(doing, 0, 0, 1), x.point(doing, 0, 0, 1), doing);
        }
    }

    /** With 0, 1, 2 and 20 variables there: the last is taken, the first behind it and -1 are refused. */
    private static void noSuchVariable() {
        for (int many : new int[] {0, 1, 2, 20}) {
            for (int doing = 1; doing <= 5; doing++) {
                Counted x = new Counted();
                for (int number = 0; number < many; number++) {
                    x.variable(1, false, false);
                }
                for (int variable : Edge.outside(0, many - 1)) {
                    Due.same(call(doing, variable, 0, 1) + " of " + many, x.point(doing, variable, 0, 1), -1);
                }
                Due.same("points when all were refused", x.count(0), 0);
                for (int number = 0; number < many; number++) {
                    Due.same(call(doing, number, 0, 1) + " of " + many, x.point(doing, number, 0, 1), number);
                }
            }
        }
    }

    /** "(not of 0)": doing nothing looks at no variable, part or number. */
    private static void notOfZero() {
        int[] any = {LOW, -1, 0, 1, 19, 20, HIGH};
        for (int variables = 0; variables <= 20; variables += 20) {
            Counted x = new Counted();
            for (int number = 0; number < variables; number++) {
                x.variable(8, true, true);
            }
            int due = 0;
            for (int value : any) {
                Due.same("nothing of " + value, x.point(0, value, 0, 1), due++);
                Due.same("nothing from " + value, x.point(0, 0, value, 1), due++);
                Due.same("nothing, so many: " + value, x.point(0, 0, 0, value), due++);
                Due.same("nothing, all " + value, x.point(0, value, value, value), due++);
            }
            Due.same("faults", x.count(2), 0);
            for (int number = 0; number < variables; number++) {
                Due.same("having behind nothing", x.having(due - 1, number), 255);
                Due.same("without behind nothing", x.without(due - 1, number), 0);
            }
        }
    }

    private static void noSuchParts() {
        for (int parts = 1; parts <= 8; parts++) {
            for (int doing = 1; doing <= 3; doing++) {
                Counted x = new Counted();
                x.variable(8, false, false);
                x.variable(parts, false, true);
                x.variable(8, false, false);
                for (int part : Edge.outside(0, parts - 1)) {
                    Due.same(call(doing, 1, part, 1) + " of " + parts, x.point(doing, 1, part, 1), -1);
                }
                for (int many : Edge.outside(1, parts)) {
                    Due.same(call(doing, 1, 0, many) + " of " + parts, x.point(doing, 1, 0, many), -1);
                    Due.same(call(doing, 1, parts - 1, many) + " of " + parts, x.point(doing, 1, parts - 1, many), -1);
                }
                Due.same("points when all were refused", x.count(0), 0);
                Due.same("the last part", x.point(doing, 1, parts - 1, 1), 0);
                Due.same("one more than the last part", x.point(doing, 1, parts - 1, 2), -1);
                Due.same("none behind the last part", x.point(doing, 1, parts, 0), -1);
                Due.same("all parts", x.point(doing, 1, 0, parts), 1);
                Due.same("one more than all", x.point(doing, 1, 0, parts + 1), -1);
                Due.same("all and the one ahead", x.point(doing, 1, -1, parts + 1), -1);
                Due.same("all from 1 on", x.point(doing, 1, 1, parts), -1);
            }
        }
    }

    private static void aSumThatWouldWrapAround() {
        int[][] wrapped = {
            {HIGH, 1}, {HIGH, 2}, {1, HIGH}, {2, HIGH}, {7, HIGH}, {HIGH, HIGH}, {HIGH - 1, 2}, {2, HIGH - 1},
            {HIGH - 7, 8}, {8, HIGH - 7}, {1 << 30, 1 << 30}, {(1 << 30) + 1, 1 << 30}, {HIGH - 1, HIGH},
            {LOW, LOW}, {LOW, LOW + 1}, {LOW, LOW + 8}, {LOW + 1, LOW}, {LOW + 4, LOW + 4}, {-1, LOW}, {LOW, -1},
            {LOW, HIGH}, {HIGH, LOW}, {LOW + 1, HIGH}, {HIGH, LOW + 2}, {0, LOW}, {1, LOW}, {8, LOW}, {LOW, 1},
            {LOW, 8}, {-1, HIGH}, {-HIGH, HIGH}, {HIGH, -HIGH}, {HIGH, -1}, {HIGH, 0}, {0, HIGH},
        };
        for (int doing = 1; doing <= 3; doing++) {
            for (int parts = 1; parts <= 8; parts++) {
                Counted x = new Counted();
                x.variable(parts, true, parts % 2 == 0);
                for (int[] w : wrapped) {
                    Due.same(call(doing, 0, w[0], w[1]) + " of " + parts, x.point(doing, 0, w[0], w[1]), -1);
                    Due.same("points after it", x.count(0), 0);
                }
            }
        }
    }

    private static void everyPartAndNumber() {
        for (int parts = 1; parts <= 8; parts++) {
            for (int part = -2; part <= 10; part++) {
                Counted x = new Counted();
                x.variable(parts, false, false);
                int all = (1 << parts) - 1;
                for (int many = -2; many <= 10; many++) {
                    boolean right = part >= 0 && many >= 1 && part + many <= parts;
                    String call = call(1, 0, part, many) + " of " + parts;
                    Due.same(call, x.point(1, 0, part, many), right ? 0 : -1);
                    if (!right) {
                        continue;
                    }
                    x.point(0, 0, 0, 0);
                    int bits = ((1 << many) - 1) << part;
                    Due.same("having behind " + call, x.having(1, 0), bits);
                    Due.same("without behind " + call, x.without(1, 0), all & ~bits);
                    x.clear();
                }
            }
        }
    }

    private static void noRoom() {
        Counted x = new Counted();
        x.variable(1, false, false);
        for (int number = 0; number < 120; number++) {
            Due.same("point " + number, x.point(number == 0 ? 1 : 3, 0, 0, 1), number);
        }
        for (int doing = -1; doing <= 6; doing++) {
            Due.same("the 121st, of doing " + doing, x.point(doing, 0, 0, 1), -1);
        }
        Due.same("count(0)", x.count(0), 120);
        Due.same("count(1)", x.count(1), 120);
        Due.same("count(2)", x.count(2), 0);
        Due.same("having(119, 0)", x.having(119, 0), 1);
        Due.same("fault(120)", x.fault(120), -1);
        Due.same("clear()", x.clear(), 120);
        Due.same("room again", x.point(3, 0, 0, 1), 0);
    }

    /** Each point is reached as soon as it is there, up to the last of 120, behind which there is none. */
    private static void theNextIsTheOneBehind() {
        Counted x = new Counted();
        for (int number = 0; number < 120; number++) {
            Due.same("isReached(" + number + ") too early", x.isReached(number), false);
            x.point(0, 0, 0, 0);
            Due.same("isReached(" + number + ")", x.isReached(number), true);
            Due.same("count(1) with " + number, x.count(1), number + 1);
        }
        Due.same("isReached(120)", x.isReached(120), false);
    }

    /** A cut behind one point leaves all behind it without a way: none goes over it, nor back, nor to itself. */
    private static void andNoOther() {
        for (int cut = 0; cut < 120; cut += 7) {
            Counted x = new Counted();
            x.variable(1, false, false);
            for (int number = 0; number < 120; number++) {
                x.point(1, 0, 0, 1);
            }
            Due.same("without(0, 0)", x.without(0, 0), 1);
            Due.same("having(0, 0), no way comes back", x.having(0, 0), 0);
            for (int number = 1; number < 120; number++) {
                Due.same("without(" + number + ", 0)", x.without(number, 0), 0);
            }
            Due.same("next", x.next(cut, -1, -1), true);
            Due.same("count(1) with a cut behind " + cut, x.count(1), cut + 1);
            Due.same("isReached", x.isReached(cut), true);
            Due.same("isReached behind it", x.isReached(cut + 1), false);
            Due.same("next as it was", x.next(cut, cut + 1 < 120 ? cut + 1 : -1, -1), true);
            Due.same("count(1) without a cut", x.count(1), 120);
        }
    }
}
