import java.util.ArrayList;
import java.util.Arrays;
import java.util.List;

/**
 * "A call that is refused changes nothing.": of two objects with the same run of calls, one is told a call more that
 * is refused; both answer all later calls alike, changes and questions.
 */
final class TermsRefusedTest {
    public static void main(String[] args) {
        refuseAll("nothing there", new ArrayList<>());
        refuseAll("variables alone", variables(3));
        refuseAll("points alone", emptyPoints(3));
        refuseAll("some of both", some());
        List<int[]> cleared = some();
        cleared.add(Told.clear());
        refuseAll("some, then cleared", cleared);
        List<int[]> again = some();
        again.add(Told.clear());
        again.addAll(graph());
        refuseAll("some, cleared, then made again", again);
        List<int[]> allVariables = variables(20);
        allVariables.addAll(graph());
        refuseAll("room for points alone", allVariables);
        List<int[]> allPoints = variables(3);
        allPoints.addAll(longGraph(120));
        refuseAll("room for variables alone", allPoints);
        List<int[]> full = variables(20);
        full.addAll(longGraph(120));
        refuseAll("no room", full);
        List<int[]> nearlyFull = variables(19);
        nearlyFull.addAll(longGraph(119));
        refuseAll("room for one more", nearlyFull);
        wrongQuestionsChangeNothing();
        questionsChangeNothing();
        Due.end();
    }

    private static List<int[]> variables(int many) {
        List<int[]> calls = new ArrayList<>();
        for (int number = 0; number < many; number++) {
            calls.add(Told.variable(2 + number % 7, number % 2 == 1, number % 3 == 1));
        }
        return calls;
    }

    private static List<int[]> emptyPoints(int many) {
        List<int[]> calls = new ArrayList<>();
        for (int number = 0; number < many; number++) {
            calls.add(Told.point(0, -1, -1, -1));
        }
        return calls;
    }

    /** The last point alone gives variable 2, and leads back to 0: a change of the last point shows at all of them. */
    private static List<int[]> graph() {
        List<int[]> calls = new ArrayList<>();
        calls.add(Told.point(1, 0, 0, 1));
        calls.add(Told.point(3, 0, 0, 2));
        calls.add(Told.point(2, 1, 0, 2));
        calls.add(Told.point(1, 1, 0, 3));
        calls.add(Told.point(1, 2, 0, 2));
        calls.add(Told.next(1, 3, 2));
        calls.add(Told.next(2, 3, 119));
        calls.add(Told.next(3, 1, 4));
        calls.add(Told.next(4, -1, 0));
        return calls;
    }

    private static List<int[]> some() {
        List<int[]> calls = variables(3);
        calls.addAll(graph());
        return calls;
    }

    /** Many points, of every doing; the last one as in graph(). */
    private static List<int[]> longGraph(int many) {
        List<int[]> calls = new ArrayList<>();
        for (int number = 0; number < many - 1; number++) {
            calls.add(Told.point(number % 6, number % 3, 0, 1 + number % 2));
        }
        calls.add(Told.point(1, 2, 0, 2));
        calls.add(Told.next(60, 0, 61));
        calls.add(Told.next(80, 119, 81));
        calls.add(Told.next(many - 1, 0, -1));
        return calls;
    }

    private static int kind(List<int[]> calls, int kind) {
        int many = 0;
        for (int[] call : calls) {
            many = call[0] == Told.clear()[0] && kind == 1 ? 0 : call[0] == kind ? many + 1 : many;
        }
        return many;
    }

    private static List<int[]> refusedCalls(int variables, int points) {
        List<int[]> calls = new ArrayList<>();
        addVariables(calls, variables);
        addPoints(calls, variables, points);
        addNexts(calls, points);
        return calls;
    }

    private static void addVariables(List<int[]> calls, int variables) {
        for (int parts : Edge.outside(1, 8)) {
            calls.add(Told.variable(parts, parts % 2 == 0, parts % 3 == 0));
        }
        for (int parts = 1; parts <= 8 && variables == 20; parts++) {
            calls.add(Told.variable(parts, parts % 2 == 0, parts % 3 == 0));
        }
    }

    private static void addPoints(List<int[]> calls, int variables, int points) {
        for (int doing : Edge.outside(0, 5)) {
            calls.add(Told.point(doing, 0, 0, 1));
        }
        for (int doing = 1; doing <= 5; doing++) {
            for (int variable : Edge.outside(0, variables - 1)) {
                calls.add(Told.point(doing, variable, 0, 1));
            }
        }
        int parts = variables == 0 ? 0 : 2;
        for (int doing = 1; doing <= 3; doing++) {
            for (int part : Edge.outside(0, parts - 1)) {
                calls.add(Told.point(doing, 0, part, 1));
                calls.add(Told.point(doing, 0, part, -part));
                calls.add(Told.point(doing, 0, part, Edge.HIGH));
            }
            for (int many : Edge.outside(1, parts)) {
                calls.add(Told.point(doing, 0, 0, many));
                calls.add(Told.point(doing, 0, 1, many));
            }
            calls.add(Told.point(doing, 0, 1, 2));
        }
        for (int doing = 0; doing <= 5 && points == 120; doing++) {
            calls.add(Told.point(doing, 0, 0, 1));
        }
    }

    private static void addNexts(List<int[]> calls, int points) {
        for (int point : Edge.outside(0, points - 1)) {
            calls.add(Told.next(point, 0, 1));
            calls.add(Told.next(point, -1, -1));
        }
        for (int other : Edge.outside(-1, 119)) {
            calls.add(Told.next(0, other, 2));
            calls.add(Told.next(0, 2, other));
            calls.add(Told.next(points - 1, other, -1));
            calls.add(Told.next(points - 1, -1, other));
            calls.add(Told.next(0, other, other));
        }
    }

    private static void refuseAll(String scene, List<int[]> build) {
        int variables = kind(build, 0);
        int points = kind(build, 1);
        for (int asked = 0; asked < 2; asked++) {
            int[] due = laterAnswers(build, asked == 1, null, scene);
            for (int[] call : refusedCalls(variables, points)) {
                String text = scene + (asked == 1 ? ", asked" : "") + ", then " + Told.text(call);
                Due.same("later answers after " + text, laterAnswers(build, asked == 1, call, text), due);
            }
        }
    }

    private static int[] laterAnswers(List<int[]> build, boolean asked, int[] refused, String text) {
        int[] points = {0, 1, 2, 4, 5, 61, 118, 119};
        int[] variables = {0, 1, 2, 19};
        Counted x = Told.all(build);
        if (asked) {
            x.count(1);
        }
        if (refused != null) {
            Due.same(text, Told.tell(x, refused), Told.refused(refused));
        }
        int[] first = Answers.of(x, points, variables);
        int[] changes = {
            x.point(2, 1, 0, 1), x.variable(5, true, false), x.next(0, 2, 1) ? 1 : 0, x.point(0, 0, 0, 0),
        };
        int[] second = Answers.of(x, points, variables);
        return joined(first, changes, second, variablesAfterClear(x));
    }

    /** Of the first and last variables: how many parts each has, and whether it is given and may be given once. */
    private static int[] variablesAfterClear(Counted x) {
        int[] variables = {0, 1, 2, 3, 18, 19, 20};
        int[] row = new int[1 + 5 * variables.length];
        int at = 0;
        row[at++] = x.clear();
        for (int variable : variables) {
            row[at++] = x.point(1, variable, 0, 1);
            row[at++] = x.without(0, variable);
            row[at++] = x.having(0, variable);
            row[at++] = x.fault(0);
            row[at++] = x.clear();
        }
        return row;
    }

    private static int[] joined(int[]... rows) {
        return Arrays.stream(rows).flatMapToInt(Arrays::stream).toArray();
    }

    private static void wrongQuestionsChangeNothing() {
        int[] points = {0, 1, 2, 3, 4};
        int[] variables = {0, 1, 2};
        int[] due = Answers.of(Told.all(some()), points, variables);
        for (int wrong : Edge.outside(0, 119)) {
            Counted x = Told.all(some());
            x.isReached(wrong);
            x.without(wrong, 0);
            x.without(0, wrong);
            x.having(wrong, 0);
            x.having(0, wrong);
            x.fault(wrong);
            x.count(wrong);
            Due.same("answers after wrong questions of " + wrong, Answers.of(x, points, variables), due);
        }
    }

    private static void questionsChangeNothing() {
        int[] points = {0, 1, 2, 3, 4};
        int[] variables = {0, 1, 2};
        Counted x = Told.all(some());
        int[] due = Answers.of(x, points, variables);
        for (int turn = 0; turn < 5; turn++) {
            Due.same("answers once more", Answers.of(x, points, variables), due);
        }
    }
}
