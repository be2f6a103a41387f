/**
 * "An object is used for at most 512 calls after it has been made": the 512th call of every kind is answered like
 * any other, whatever the 511 ahead of it were.
 */
final class WhatItIsTest {
    private static final int LAST = Counted.MOST_CALLS - 1;

    public static void main(String[] args) {
        theLastCallOfEveryKind();
        allRoomAndAllCalls();
        changesAndQuestionsInTurn();
        pointsMadeAndCleared();
        theLongestWay();
        Due.end();
    }

    private static void isLast(Counted x) {
        Due.same("calls made", x.calls(), Counted.MOST_CALLS);
    }

    private static void theLastCallOfEveryKind() {
        for (int kind = 0; kind < 9; kind++) {
            for (int filler = 0; filler < 3; filler++) {
                Counted x = new Counted();
                x.variable(3, true, true);
                x.point(2, 0, 1, 2);
                x.point(1, 0, 0, 3);
                while (x.calls() < LAST) {
                    fill(x, filler);
                }
                last(x, kind);
                isLast(x);
            }
        }
    }

    private static void fill(Counted x, int filler) {
        switch (filler) {
            case 0:
                Due.same("a refused variable", x.variable(0, true, true), -1);
                break;
            case 1:
                Due.same("a question", x.fault(1), 2);
                break;
            default:
                Due.same("a change", x.next(0, 1, -1), true);
        }
    }

    private static void last(Counted x, int kind) {
        switch (kind) {
            case 0:
                Due.same("the 512th: variable", x.variable(8, false, false), 1);
                break;
            case 1:
                Due.same("the 512th: point", x.point(3, 0, 0, 1), 2);
                break;
            case 2:
                Due.same("the 512th: next", x.next(1, 0, 1), true);
                break;
            case 3:
                Due.same("the 512th: isReached", x.isReached(1), true);
                break;
            case 4:
                Due.same("the 512th: without", x.without(1, 0), 6);
                break;
            case 5:
                Due.same("the 512th: having", x.having(1, 0), 1);
                break;
            case 6:
                Due.same("the 512th: fault", x.fault(1), 2);
                break;
            case 7:
                Due.same("the 512th: count", x.count(3), 1);
                break;
            default:
                Due.same("the 512th: clear", x.clear(), 2);
        }
    }

    private static void allRoomAndAllCalls() {
        Counted x = new Counted();
        for (int number = 0; number < 20; number++) {
            Due.same("variable", x.variable(8, true, number % 2 == 1), number);
        }
        for (int number = 0; number < 120; number++) {
            Due.same("point", x.point(2, number % 20, number / 20, 1), number);
        }
        for (int number = 0; number < 120; number++) {
            Due.same("next", x.next(number, number + 1 < 120 ? number + 1 : -1, -1), true);
        }
        for (int number = 0; number < 120; number++) {
            Due.same("fault(" + number + ")", x.fault(number), number % 2 == 1 ? 0 : 1);
        }
        for (int number = 0; x.calls() < Counted.MOST_CALLS; number++) {
            int point = number % 120;
            int bits = (1 << point / 20) - 1;
            Due.same("without(" + point + ")", x.without(point, point % 20), point % 2 == 1 ? bits : 255);
        }
        isLast(x);
    }

    private static void changesAndQuestionsInTurn() {
        Counted x = new Counted();
        for (int number = 0; number < 120; number++) {
            x.point(0, 0, 0, 0);
        }
        for (int turn = 0; x.calls() < Counted.MOST_CALLS; turn++) {
            int point = turn % 119;
            x.next(point, turn % 2 == 0 ? -1 : point + 1, -1);
            Due.same("isReached in turn " + turn, x.isReached(point + 1), turn % 2 == 1);
            x.next(point, point + 1, -1);
            Due.same("count(1) in turn " + turn, x.count(1), 120);
        }
        isLast(x);
    }

    private static void pointsMadeAndCleared() {
        Counted x = new Counted();
        while (x.calls() < Counted.MOST_CALLS) {
            Due.same("point", x.point(0, 0, 0, 0), 0);
            Due.same("clear", x.clear(), 1);
        }
        isLast(x);
    }

    /** Every point leads backwards, so each bit needs a way through all of them, and each question a new flow. */
    private static void theLongestWay() {
        Counted x = new Counted();
        for (int number = 0; number < 20; number++) {
            x.variable(8, false, false);
        }
        for (int number = 0; number < 120; number++) {
            x.point(1, number % 20, number / 20, 1);
            x.next(number, number == 0 ? 119 : number - 1, 0);
        }
        while (x.calls() < Counted.MOST_CALLS - 2) {
            x.next(0, 119, -1);
            Due.same("having(0, 0)", x.having(0, 0), 63);
        }
        Due.same("having(119, 19)", x.having(119, 19), 63);
        Due.same("without(119, 19)", x.without(119, 19), 255);
        isLast(x);
    }
}
