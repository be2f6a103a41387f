/** "(At a point that no way comes to neither is so.)" */
final class TermsNoWayTest {
    public static void main(String[] args) {
        behindACut();
        anIsland();
        cutAndJoinedAgain();
        Due.end();
    }

    private static void neither(Counted x, int point, int variables) {
        Due.same("isReached(" + point + ")", x.isReached(point), false);
        for (int variable = 0; variable < variables; variable++) {
            Due.same("without(" + point + ", " + variable + ")", x.without(point, variable), 0);
            Due.same("having(" + point + ", " + variable + ")", x.having(point, variable), 0);
        }
    }

    /** The cut behind each of the points: what is ahead of it stays, what is behind it has neither. */
    private static void behindACut() {
        for (int cut = 0; cut < 8; cut++) {
            Counted x = new Counted();
            x.variable(8, false, true);
            x.variable(8, false, false);
            for (int number = 0; number < 9; number++) {
                x.point(0, 0, 0, 0);
            }
            Due.same("having(8, 0) ahead of the cut", x.having(8, 0), 255);
            x.next(cut, -1, -1);
            for (int number = 0; number <= cut; number++) {
                Due.same("having(" + number + ", 0)", x.having(number, 0), 255);
                Due.same("without(" + number + ", 0)", x.without(number, 0), 0);
                Due.same("having(" + number + ", 1)", x.having(number, 1), 0);
                Due.same("without(" + number + ", 1)", x.without(number, 1), 255);
            }
            for (int number = cut + 1; number < 9; number++) {
                neither(x, number, 2);
            }
        }
    }

    /** Points that lead to one another and to point 0, with doings of every kind, but no way comes to them. */
    private static void anIsland() {
        Counted x = new Counted();
        x.variable(4, true, true);
        x.variable(4, false, false);
        x.point(0, 0, 0, 0);
        for (int doing = 1; doing <= 5; doing++) {
            x.point(doing, doing % 2, 0, 4);
            x.next(doing, doing == 5 ? 1 : doing + 1, 0);
        }
        x.next(0, -1, -1);
        for (int point = 1; point <= 5; point++) {
            neither(x, point, 2);
            Due.same("fault(" + point + ")", x.fault(point), 0);
        }
        Due.same("having(0, 0) without them", x.having(0, 0), 15);
        Due.same("without(0, 0) without them", x.without(0, 0), 0);
        Due.same("having(0, 1) without them", x.having(0, 1), 0);
        Due.same("count(1)", x.count(1), 1);
    }

    private static void cutAndJoinedAgain() {
        Counted x = new Counted();
        x.variable(2, false, true);
        x.point(2, 0, 0, 1);
        x.point(0, 0, 0, 0);
        for (int turn = 0; turn < 5; turn++) {
            Due.same("without(1, 0)", x.without(1, 0), 1);
            Due.same("having(1, 0)", x.having(1, 0), 2);
            x.next(0, -1, -1);
            neither(x, 1, 1);
            x.next(0, -1, 1);
        }
    }
}
