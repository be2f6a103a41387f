/** "all parts of the variable are without values (part and number are not looked at).   5 END: likewise." */
final class TermsBeginEndTest {
    private static final int[] ANY = {Edge.LOW, Edge.LOW + 1, -2, -1, 0, 1, 7, 8, 9, 31, 32, Edge.HIGH - 1, Edge.HIGH};

    public static void main(String[] args) {
        partAndNumberAreNotLookedAt();
        allPartsOfThatVariableAlone();
        itIsNoFault();
        Due.end();
    }

    private static void partAndNumberAreNotLookedAt() {
        for (int doing = 4; doing <= 5; doing++) {
            for (int part : ANY) {
                Counted x = new Counted();
                x.variable(8, false, true);
                for (int many : ANY) {
                    String call = "point(" + doing + ", 0, " + part + ", " + many + ")";
                    Due.same(call, x.point(doing, 0, part, many), 0);
                    x.point(0, 0, 0, 0);
                    Due.same("ahead of " + call, x.having(0, 0), 255);
                    Due.same("having behind " + call, x.having(1, 0), 0);
                    Due.same("without behind " + call, x.without(1, 0), 255);
                    x.clear();
                }
            }
        }
    }

    private static void allPartsOfThatVariableAlone() {
        for (int doing = 4; doing <= 5; doing++) {
            for (int one = 0; one < 20; one++) {
                Counted x = new Counted();
                for (int number = 0; number < 20; number++) {
                    x.variable((number + one) % 8 + 1, false, true);
                }
                x.point(doing, one, 0, 1);
                x.point(0, 0, 0, 0);
                for (int number = 0; number < 20; number++) {
                    int all = (1 << (number + one) % 8 + 1) - 1;
                    Due.same("having " + number + " behind one of " + one, x.having(1, number), number == one ? 0 : all);
                    Due.same("without " + number + " behind one of " + one, x.without(1, number), number == one ? all : 0);
                }
            }
        }
    }

    /** Of a variable with and without values, that may be given once alone and often. */
    private static void itIsNoFault() {
        for (int doing = 4; doing <= 5; doing++) {
            for (int kind = 0; kind < 4; kind++) {
                Counted x = new Counted();
                x.variable(2, kind % 2 == 1, kind / 2 == 1);
                x.point(doing, 0, 0, 1);
                x.point(doing, 0, 0, 2);
                x.point(1, 0, 0, 2);
                x.point(doing, 0, 0, 1);
                x.point(1, 0, 0, 2);
                Due.same("faults", x.count(2), 0);
            }
        }
    }
}
