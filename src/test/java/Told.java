import java.util.ArrayList;
import java.util.Arrays;
import java.util.List;

/** Calls that change an object, kept as rows, so that the same run can be told to several objects. */
final class Told {
    private static final int VARIABLE = 0;
    private static final int POINT = 1;
    private static final int NEXT = 2;
    private static final int CLEAR = 3;

    private Told() {
    }

    static int[] variable(int parts, boolean once, boolean given) {
        return new int[] {VARIABLE, parts, once ? 1 : 0, given ? 1 : 0};
    }

    static int[] point(int doing, int variable, int part, int many) {
        return new int[] {POINT, doing, variable, part, many};
    }

    static int[] next(int point, int x, int y) {
        return new int[] {NEXT, point, x, y};
    }

    static int[] clear() {
        return new int[] {CLEAR};
    }

    /** What a refused call of this kind answers: next() false, the others -1. */
    static int refused(int[] call) {
        return call[0] == NEXT ? 0 : -1;
    }

    static int tell(Counted x, int[] call) {
        switch (call[0]) {
            case VARIABLE:
                return x.variable(call[1], call[2] == 1, call[3] == 1);
            case POINT:
                return x.point(call[1], call[2], call[3], call[4]);
            case NEXT:
                return x.next(call[1], call[2], call[3]) ? 1 : 0;
            default:
                return x.clear();
        }
    }

    static Counted all(List<int[]> calls) {
        Counted x = new Counted();
        for (int[] call : calls) {
            tell(x, call);
        }
        return x;
    }

    static Counted all(int[]... calls) {
        return all(new ArrayList<>(Arrays.asList(calls)));
    }

    static String text(int[] call) {
        String[] names = {"variable", "point", "next", "clear"};
        return names[call[0]] + Arrays.toString(Arrays.copyOfRange(call, 1, call.length));
    }
}
