import java.util.ArrayList;
import java.util.List;
import java.util.Random;

/**
 * Promises 2 to 10 together: runs of calls, always the same ones, against a slow reading of the document that
 * follows each part by itself over pairs of a point and whether the part has a value there.
 */
final class ByAllWaysTest {
    private static final class Model {
        final List<int[]> variables = new ArrayList<>(); // parts, once, given
        final List<int[]> points = new ArrayList<>(); // doing, variable, part, many, x, y

        int variable(int parts, boolean once, boolean given) {
            if (parts < 1 || parts > 8 || variables.size() == 20) {
                return -1;
            }
            variables.add(new int[] {parts, once ? 1 : 0, given ? 1 : 0});
            return variables.size() - 1;
        }

        int point(int doing, int variable, int part, int many) {
            if (doing < 0 || doing > 5 || points.size() == 120) {
                return -1;
            }
            if (doing != 0 && (variable < 0 || variable >= variables.size())) {
                return -1;
            }
            if (doing >= 1 && doing <= 3
                && (part < 0 || many < 1 || (long) part + many > variables.get(variable)[0])) {
                return -1;
            }
            points.add(new int[] {doing, variable, part, many, points.size() + 1, -1});
            return points.size() - 1;
        }

        boolean next(int point, int x, int y) {
            if (point < 0 || point >= points.size() || x < -1 || y < -1 || x > 119 || y > 119) {
                return false;
            }
            points.get(point)[4] = x;
            points.get(point)[5] = y;
            return true;
        }

        /** For each point: bit 0, a way comes to it without the part's value; bit 1, with it. */
        int[] follow(int variable, int part) {
            int[] seen = new int[points.size()];
            boolean given = variable >= 0 && variables.get(variable)[2] == 1;
            step(seen, 0, given, variable, part);
            return seen;
        }

        private void step(int[] seen, int point, boolean has, int variable, int part) {
            int bit = has ? 2 : 1;
            if (point < 0 || point >= seen.length || (seen[point] & bit) != 0) {
                return;
            }
            seen[point] |= bit;
            int[] p = points.get(point);
            boolean then = has;
            if (p[0] != 0 && p[1] == variable) {
                boolean of = part >= p[2] && part < p[2] + p[3];
                then = p[0] >= 4 ? false : p[0] == 1 && of ? true : p[0] == 2 && of ? false : has;
            }
            step(seen, p[4], then, variable, part);
            step(seen, p[5], then, variable, part);
        }

        boolean isReached(int point) {
            return point >= 0 && point < points.size() && follow(-1, 0)[point] != 0;
        }

        int bits(int point, int variable, int kind) {
            if (point < 0 || point >= points.size() || variable < 0 || variable >= variables.size()) {
                return 0;
            }
            int bits = 0;
            for (int part = 0; part < variables.get(variable)[0]; part++) {
                if ((follow(variable, part)[point] & kind) != 0) {
                    bits |= 1 << part;
                }
            }
            return bits;
        }

        int fault(int point) {
            if (point < 0 || point >= points.size()) {
                return -1;
            }
            int[] p = points.get(point);
            if (!isReached(point) || p[0] == 0 || p[0] >= 4) {
                return 0;
            }
            int[] v = variables.get(p[1]);
            if (p[0] == 1) {
                return v[1] == 0 ? 0 : p[3] != v[0] ? 3 : bits(point, p[1], 2) != 0 ? 2 : 0;
            }
            int without = bits(point, p[1], 1);
            for (int part = p[2]; part < p[2] + p[3]; part++) {
                if ((without >> part & 1) != 0) {
                    return 1;
                }
            }
            return 0;
        }

        int count(int what) {
            int reached = 0;
            int faults = 0;
            int first = -1;
            int parts = 0;
            for (int point = points.size() - 1; point >= 0; point--) {
                reached += isReached(point) ? 1 : 0;
                if (fault(point) > 0) {
                    faults++;
                    first = point;
                }
            }
            for (int[] v : variables) {
                parts += v[0];
            }
            int[] all = {points.size(), reached, faults, first, variables.size(), parts};
            return what < 0 || what > 5 ? -1 : all[what];
        }

        int clear() {
            int many = points.size();
            points.clear();
            return many;
        }
    }

    public static void main(String[] args) {
        for (int run = 0; run < 1500; run++) {
            oneRun(run);
        }
        Due.end();
    }

    private static void oneRun(int run) {
        Random random = new Random(run);
        Counted x = new Counted();
        Model m = new Model();
        int building = random.nextInt(100);
        int variables = random.nextInt(24);
        for (int call = 0; call < variables; call++) {
            oneCall(run, random, x, m, 0);
        }
        for (int call = 0; call < building; call++) {
            oneCall(run, random, x, m, 1 + random.nextInt(2));
        }
        // The dearest kind of oneCall makes two calls.
        while (x.calls() <= Counted.MOST_CALLS - 2) {
            oneCall(run, random, x, m, random.nextInt(run % 2 == 0 ? 40 : 12));
        }
    }

    private static void oneCall(int run, Random random, Counted x, Model m, int kind) {
        int point = random.nextInt(m.points.size() + 3) - 1;
        int variable = random.nextInt(m.variables.size() + 2) - (random.nextInt(10) == 0 ? 1 : 0);
        String call = "run " + run + ": " + kind + " at " + point + ", " + variable;
        switch (kind) {
            case 0: {
                int parts = random.nextInt(10);
                boolean once = random.nextBoolean();
                boolean given = random.nextBoolean();
                Due.same(call, x.variable(parts, once, given), m.variable(parts, once, given));
                break;
            }
            case 1: case 9: {
                int doing = random.nextInt(8) - 1;
                int part = random.nextInt(6) - 1;
                int many = random.nextInt(6);
                if (random.nextInt(3) == 0 && variable >= 0 && variable < m.variables.size()) {
                    part = 0;
                    many = m.variables.get(variable)[0];
                }
                Due.same(call, x.point(doing, variable, part, many), m.point(doing, variable, part, many));
                break;
            }
            case 2: case 10: {
                int a = random.nextInt(m.points.size() + 6) - 2;
                int b = random.nextInt(10) == 0 ? 110 + random.nextInt(12) : random.nextInt(m.points.size() + 6) - 2;
                Due.same(call, x.next(point, a, b), m.next(point, a, b));
                break;
            }
            case 3:
                Due.same(call, x.isReached(point), m.isReached(point));
                break;
            case 4: case 11:
                Due.same(call, x.fault(point), m.fault(point));
                break;
            case 5: {
                int what = random.nextInt(8) - 1;
                Due.same(call + " " + what, x.count(what), m.count(what));
                break;
            }
            case 6:
                if (random.nextInt(12) == 0) {
                    Due.same(call, x.clear(), m.clear());
                }
                break;
            default:
                Due.same(call, x.without(point, variable), m.bits(point, variable, 1));
                Due.same(call, x.having(point, variable), m.bits(point, variable, 2));
        }
    }
}
