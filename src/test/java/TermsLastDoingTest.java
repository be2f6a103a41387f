/**
 * "the last GIVE, MOVE, BEGIN or END on the way that is of it is none that gives, or there is none and it is not
 * given from the beginning."
 */
final class TermsLastDoingTest {
    public static void main(String[] args) {
        noneOnTheWay();
        noneOfThePart();
        theLastOfTwo();
        theLastOfManyFarBack();
        aWayThatComesByTwice();
        twoWaysAbreast();
        Due.end();
    }

    private static void due(String call, Counted x, int point, int without, int having) {
        Due.same("without " + call, x.without(point, 0), without);
        Due.same("having " + call, x.having(point, 0), having);
    }

    /** Doing nothing and USE are none of these, by the shortest way and by the longest. */
    private static void noneOnTheWay() {
        for (int given = 0; given < 2; given++) {
            for (int doing = 0; doing <= 3; doing += 3) {
                Counted x = new Counted();
                x.variable(8, false, given == 1);
                for (int number = 0; number < 120; number++) {
                    x.point(doing, 0, 0, 8);
                }
                for (int number = 0; number < 120; number++) {
                    due("by doings " + doing, x, number, given == 1 ? 0 : 255, given == 1 ? 255 : 0);
                }
            }
        }
    }

    /** Doings of the parts beside it and of the variables beside its own are not of it. */
    private static void noneOfThePart() {
        for (int doing = 1; doing <= 2; doing++) {
            for (int part = 0; part < 8; part++) {
                for (int many = 1; part + many <= 8; many++) {
                    Counted x = new Counted();
                    x.variable(8, false, doing == 2);
                    x.variable(8, false, doing == 2);
                    x.point(doing, 0, part, many);
                    x.point(doing, 1, 0, 8);
                    x.point(0, 0, 0, 0);
                    int of = ((1 << many) - 1) << part;
                    due("of " + part + ", " + many, x, 2, doing == 2 ? of : 255 - of, doing == 2 ? 255 - of : of);
                }
            }
        }
        for (int doing = 4; doing <= 5; doing++) {
            Counted x = new Counted();
            x.variable(8, false, true);
            x.variable(8, false, true);
            x.point(doing, 1, 0, 8);
            x.point(0, 0, 0, 0);
            due("behind a doing of another", x, 1, 0, 255);
        }
    }

    private static void theLastOfTwo() {
        for (int first = 0; first <= 5; first++) {
            for (int second = 0; second <= 5; second++) {
                for (int given = 0; given < 2; given++) {
                    Counted x = new Counted();
                    x.variable(1, false, given == 1);
                    x.point(first, 0, 0, 1);
                    x.point(second, 0, 0, 1);
                    x.point(0, 0, 0, 0);
                    int last = second != 0 && second != 3 ? second : first != 0 && first != 3 ? first : 0;
                    boolean has = last == 0 ? given == 1 : last == 1;
                    due("by " + first + " and " + second, x, 2, has ? 0 : 1, has ? 1 : 0);
                }
            }
        }
    }

    /** The last of them at point 0, then 118 that are not of it. */
    private static void theLastOfManyFarBack() {
        for (int doing = 1; doing <= 5; doing++) {
            Counted x = new Counted();
            x.variable(3, false, doing != 1);
            x.point(doing, 0, 0, 3);
            for (int number = 1; number < 120; number++) {
                x.point(number % 2 * 3, 0, 0, 3);
            }
            boolean has = doing == 1 || doing == 3;
            due("at 119 by " + doing + " at 0", x, 119, has ? 0 : 7, has ? 7 : 0);
        }
    }

    /** A loop of 1 .. 120 points whose last one gives or moves: ahead of all others that is so the second time alone. */
    private static void aWayThatComesByTwice() {
        for (int length = 1; length <= 120; length++) {
            for (int doing = 1; doing <= 2; doing++) {
                Counted x = new Counted();
                x.variable(1, false, doing == 2);
                for (int number = 0; number < length; number++) {
                    x.point(number == length - 1 ? doing : 0, 0, 0, 1);
                }
                String loop = "in a loop of " + length + " with doing " + doing;
                int before = doing == 2 ? 0 : 1;
                due("ahead of " + loop, x, length - 1, before, 1 - before);
                x.next(length - 1, 0, -1);
                for (int number = 0; number < length; number++) {
                    due(number + " " + loop, x, number, 1, 1);
                }
                x.next(length - 1, -1, -1);
                due("behind " + loop, x, length - 1, before, 1 - before);
                x.next(length - 1, -1, 0);
                due("again " + loop, x, length / 2, 1, 1);
                x.next(0, -1, -1);
                Due.same("count(1) of what was " + loop, x.count(1), 1);
                due("at 0 alone, of what was " + loop, x, 0, before, 1 - before);
            }
        }
    }

    /** Odd points one way, even ones another, the last of each gives a part of its own, and both lead back to 0. */
    private static void twoWaysAbreast() {
        for (int many = 3; many <= 120; many++) {
            Counted x = new Counted();
            x.variable(2, false, false);
            for (int number = 0; number < many; number++) {
                boolean last = number >= many - 2;
                x.point(last ? 1 : 0, 0, number % 2, 1);
                x.next(number, last ? 0 : number + 2, number == 0 ? 1 : -1);
            }
            for (int number = 0; number < many; number++) {
                due(number + " of " + many + ", two abreast", x, number, 3, 3);
            }
        }
    }
}
