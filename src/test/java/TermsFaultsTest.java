/**
 * "FAULTS: at a point that a way comes to: 1 a MOVE or USE of a part that may be without a value; 2 a GIVE of all
 * parts of a variable that may be given once alone, one of which may have one; 3 a GIVE of some parts, but not all,
 * of such a variable."
 */
final class TermsFaultsTest {
    public static void main(String[] args) {
        for (int parts = 1; parts <= 8; parts++) {
            oneOfTheUsedPartsIsWithout(parts);
            oneOfTheGivenPartsHasOne(parts);
            someOrAllParts(parts);
        }
        aPartThatMayBeWithoutByOneWayOfTwo();
        aPartThatMayHaveOneByOneWayOfTwo();
        onlyAtAPointThatAWayComesTo();
        Due.end();
    }

    /** One part alone is without a value: a fault if it is among the parts, at their first and last too, else none. */
    private static void oneOfTheUsedPartsIsWithout(int parts) {
        for (int bare = 0; bare < parts; bare++) {
            for (int part = 0; part < parts; part++) {
                Counted x = new Counted();
                x.variable(parts, false, true);
                for (int many = 1; part + many <= parts; many++) {
                    boolean in = bare >= part && bare < part + many;
                    for (int doing = 1; doing <= 3; doing++) {
                        x.clear();
                        x.point(2, 0, bare, 1);
                        x.point(doing, 0, part, many);
                        String at = "doing " + doing + " of " + part + ", " + many + ", without " + bare;
                        Due.same("ahead of " + at, x.fault(0), 0);
                        Due.same(at, x.fault(1), in && doing != 1 ? 1 : 0);
                        Due.same("faults by " + at, x.count(2), in && doing != 1 ? 1 : 0);
                    }
                }
            }
        }
    }

    /** One part alone has a value, and none, and all, of a variable that may be given once alone or often. */
    private static void oneOfTheGivenPartsHasOne(int parts) {
        for (int once = 0; once < 2; once++) {
            for (int kept = -1; kept <= parts; kept++) {
                Counted x = new Counted();
                x.variable(parts, once == 1, true);
                // Moved away: the parts ahead of the kept one and those behind it.
                boolean all = kept == parts;
                x.point(!all && kept != 0 ? 2 : 0, 0, 0, kept > 0 ? kept : parts);
                x.point(!all && kept >= 0 && kept < parts - 1 ? 2 : 0, 0, kept + 1, parts - 1 - kept);
                Due.same("a give at 2", x.point(1, 0, 0, parts), 2);
                int having = kept == -1 ? 0 : all ? (1 << parts) - 1 : 1 << kept;
                Due.same("having(2, 0)", x.having(2, 0), having);
                String at = "a give of " + parts + " once " + once + ", " + kept + " has one";
                Due.same(at, x.fault(2), once == 1 && having != 0 ? 2 : 0);
            }
        }
    }

    /** Fault 3 does not ask for a value: of some parts it is 3 with and without, of all it is 2 or none. */
    private static void someOrAllParts(int parts) {
        for (int kind = 0; kind < 4; kind++) {
            boolean once = kind % 2 == 1;
            boolean given = kind / 2 == 1;
            for (int part = 0; part < parts; part++) {
                for (int many = 1; part + many <= parts; many++) {
                    Counted x = new Counted();
                    x.variable(parts, once, given);
                    x.point(1, 0, part, many);
                    x.point(1, 0, 0, parts);
                    x.point(5, 0, 0, 0);
                    x.point(1, 0, part, many);
                    String at = "a give of " + part + ", " + many + " of " + parts + " in kind " + kind;
                    int some = many < parts ? 3 : given ? 2 : 0;
                    Due.same(at, x.fault(0), once ? some : 0);
                    Due.same("all behind " + at, x.fault(1), once ? 2 : 0);
                    Due.same("behind an end, " + at, x.fault(3), once && many < parts ? 3 : 0);
                }
            }
        }
    }

    private static void aPartThatMayBeWithoutByOneWayOfTwo() {
        Counted x = new Counted();
        x.variable(2, false, true);
        x.point(0, 0, 0, 0);
        x.point(2, 0, 1, 1);
        x.point(3, 0, 1, 1);
        Due.same("without by the one way", x.fault(2), 1);
        x.next(0, 1, 2);
        Due.same("without by one of two", x.fault(2), 1);
        Due.same("having by the other", x.having(2, 0), 3);
        x.next(0, 2, -1);
        Due.same("with by the one way", x.fault(2), 0);
    }

    private static void aPartThatMayHaveOneByOneWayOfTwo() {
        Counted x = new Counted();
        x.variable(2, true, true);
        x.point(0, 0, 0, 0);
        x.point(5, 0, 0, 0);
        x.point(1, 0, 0, 2);
        Due.same("without by the one way", x.fault(2), 0);
        x.next(0, 1, 2);
        Due.same("having by one of two", x.fault(2), 2);
        Due.same("without by the other", x.without(2, 0), 3);
        x.next(0, 1, -1);
        Due.same("without by the one way again", x.fault(2), 0);
    }

    private static void onlyAtAPointThatAWayComesTo() {
        int[][] faulty = {{3, 0, 0, 2, 1}, {2, 0, 1, 1, 1}, {1, 1, 0, 2, 2}, {1, 1, 1, 1, 3}, {1, 1, 0, 1, 3}};
        for (int[] f : faulty) {
            Counted x = new Counted();
            x.variable(2, false, false);
            x.variable(2, true, true);
            x.point(0, 0, 0, 0);
            x.point(f[0], f[1], f[2], f[3]);
            Due.same("a way comes to it", x.fault(1), f[4]);
            Due.same("count(2)", x.count(2), 1);
            Due.same("count(3)", x.count(3), 1);
            x.next(0, -1, -1);
            Due.same("no way comes to it", x.fault(1), 0);
            Due.same("count(2)", x.count(2), 0);
            Due.same("count(3)", x.count(3), -1);
            x.next(0, 0, 1);
            Due.same("a way comes to it again", x.fault(1), f[4]);
        }
    }
}
