/** "VARIABLES 0, 1, .. (at most 20) of 1 .. 8 PARTS". */
final class TermsVariablesTest {
    public static void main(String[] args) {
        everyNumberWithEveryManyParts();
        eachOf160PartsIsItsOwn();
        Due.end();
    }

    private static void everyNumberWithEveryManyParts() {
        for (int parts = 1; parts <= 8; parts++) {
            for (int given = 0; given < 2; given++) {
                Counted x = new Counted();
                x.point(0, 0, 0, 0);
                int all = (1 << parts) - 1;
                for (int number = 0; number < 20; number++) {
                    Due.same("variables ahead of one", x.count(4), number);
                    Due.same("its parts are not there yet", x.without(0, number) | x.having(0, number), 0);
                    Due.same("variable of " + parts, x.variable(parts, false, given == 1), number);
                    Due.same("parts", x.count(5), parts * (number + 1));
                    Due.same("without", x.without(0, number), given == 1 ? 0 : all);
                    Due.same("having", x.having(0, number), given == 1 ? all : 0);
                }
                Due.same("the 21st", x.variable(parts, false, given == 1), -1);
                Due.same("variables", x.count(4), 20);
                Due.same("no variable 20", x.without(0, 20) | x.having(0, 20), 0);
            }
        }
    }

    private static void eachOf160PartsIsItsOwn() {
        for (int one = 0; one < 20; one++) {
            for (int part = 0; part < 8; part++) {
                Counted x = new Counted();
                for (int number = 0; number < 20; number++) {
                    x.variable(8, false, number % 2 == 1);
                }
                x.point(one % 2 == 1 ? 2 : 1, one, part, 1);
                x.point(0, 0, 0, 0);
                for (int number = 0; number < 20; number++) {
                    int changed = number == one ? 1 << part : 0;
                    int having = number % 2 == 1 ? 255 - changed : changed;
                    Due.same("having " + number + " after " + one + ", " + part, x.having(1, number), having);
                    Due.same("without " + number + " after " + one + ", " + part, x.without(1, number), 255 - having);
                }
            }
        }
    }
}
