/**
 * A PartsFlow whose calls are counted. The document leaves free what an object answers after its 512th call, so
 * a test that asks more of one object would ask for what is not promised: that is told as an error of the test.
 */
final class Counted {
    static final int MOST_CALLS = 512;

    private final PartsFlow flow = new PartsFlow();
    private int calls;

    int calls() {
        return calls;
    }

    private PartsFlow counted() {
        calls++;
        if (calls == MOST_CALLS + 1) {
            Due.wrong("the test asks more than 512 calls of one object");
        }
        return flow;
    }

    int variable(int parts, boolean once, boolean given) {
        return counted().variable(parts, once, given);
    }

    int point(int doing, int variable, int part, int many) {
        return counted().point(doing, variable, part, many);
    }

    boolean next(int point, int x, int y) {
        return counted().next(point, x, y);
    }

    boolean isReached(int point) {
        return counted().isReached(point);
    }

    int without(int point, int variable) {
        return counted().without(point, variable);
    }

    int having(int point, int variable) {
        return counted().having(point, variable);
    }

    int fault(int point) {
        return counted().fault(point);
    }

    int count(int what) {
        return counted().count(what);
    }

    int clear() {
        return counted().clear();
    }
}
