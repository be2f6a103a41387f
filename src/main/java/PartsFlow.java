/** What may be without a value, and what may have one, over a graph of points: by all ways. */
public final class PartsFlow {
    private static final int MAX_VARIABLES = 20;
    private static final int MAX_PARTS = 8;
    private static final int MAX_POINTS = 120;
    private static final int NONE = -1;

    private static final int NOTHING = 0;
    private static final int GIVE = 1;
    private static final int MOVE = 2;
    private static final int USE = 3;
    private static final int END = 5;

    private static final int NO_FAULT = 0;
    private static final int FAULT_WITHOUT_VALUE = 1;
    private static final int FAULT_GIVEN_AGAIN = 2;
    private static final int FAULT_GIVEN_IN_PARTS = 3;

    // Eight variables of eight parts fill one long, so three longs hold a bit for every part.
    private static final int VARIABLES_IN_WORD = 8;
    private static final int WORDS = 3;
    // A point's words in the flow: first those of "may be without", then those of "may have".
    private static final int WITHOUT = 0;
    private static final int HAVING = WORDS;
    private static final int SPAN = 2 * WORDS;

    // A point waits once when it is first reached and then only when a bit was added to it.
    private static final int MAX_TURNS = MAX_POINTS * (SPAN * 64 + 1);

    private int variableCount;
    private final int[] variableParts;
    private final boolean[] variableOnce;
    private final boolean[] variableGiven;

    private int pointCount;
    private final int[] pointDoing;
    private final int[] pointVariable;
    private final int[] pointBits;
    private final int[] pointNextX;
    private final int[] pointNextY;

    private boolean solved;
    private final boolean[] reached;
    private final long[] ahead;
    private final long[] behind;
    private final int[] waiting;
    private final boolean[] isWaiting;
    private int waitingHead;
    private int waitingCount;

    public PartsFlow() {
        variableParts = new int[MAX_VARIABLES];
        variableOnce = new boolean[MAX_VARIABLES];
        variableGiven = new boolean[MAX_VARIABLES];
        pointDoing = new int[MAX_POINTS];
        pointVariable = new int[MAX_POINTS];
        pointBits = new int[MAX_POINTS];
        pointNextX = new int[MAX_POINTS];
        pointNextY = new int[MAX_POINTS];
        reached = new boolean[MAX_POINTS];
        ahead = new long[MAX_POINTS * SPAN];
        behind = new long[SPAN];
        waiting = new int[MAX_POINTS];
        isWaiting = new boolean[MAX_POINTS];
    }

    public int variable(int parts, boolean once, boolean given) {
        if (parts < 1 || parts > MAX_PARTS || variableCount >= MAX_VARIABLES) {
            return NONE;
        }
        int number = variableCount;
        variableParts[number] = parts;
        variableOnce[number] = once;
        variableGiven[number] = given;
        variableCount = number + 1;
        solved = false;
        return number;
    }

    public int point(int doing, int variable, int part, int many) {
        if (pointCount >= MAX_POINTS || !isDoing(doing, variable, part, many)) {
            return NONE;
        }
        int number = pointCount;
        pointDoing[number] = doing;
        // A point that does nothing may name any variable: 0 keeps the rows' indexes in range.
        pointVariable[number] = doing == NOTHING ? 0 : variable;
        pointBits[number] = bitsOfDoing(doing, variable, part, many);
        pointNextX[number] = number + 1;
        pointNextY[number] = NONE;
        pointCount = number + 1;
        solved = false;
        return number;
    }

    public boolean next(int point, int x, int y) {
        if (!isPoint(point) || !canBeNext(x) || !canBeNext(y)) {
            return false;
        }
        pointNextX[point] = x;
        pointNextY[point] = y;
        solved = false;
        return true;
    }

    public boolean isReached(int point) {
        if (!isPoint(point)) {
            return false;
        }
        solve();
        return reached[point];
    }

    public int without(int point, int variable) {
        return bitsAhead(point, variable, WITHOUT);
    }

    public int having(int point, int variable) {
        return bitsAhead(point, variable, HAVING);
    }

    public int fault(int point) {
        if (!isPoint(point)) {
            return NONE;
        }
        solve();
        return faultOfPoint(point);
    }

    public int count(int what) {
        switch (what) {
            case 0:
                return pointCount;
            case 1:
                return countReached();
            case 2:
                return countFaults();
            case 3:
                return firstFault();
            case 4:
                return variableCount;
            case 5:
                return countParts();
            default:
                return NONE;
        }
    }

    public int clear() {
        int before = pointCount;
        pointCount = 0;
        solved = false;
        return before;
    }

    private boolean isPoint(int point) {
        return point >= 0 && point < pointCount;
    }

    private boolean isVariable(int variable) {
        return variable >= 0 && variable < variableCount;
    }

    private static boolean canBeNext(int point) {
        return point >= NONE && point < MAX_POINTS;
    }

    private boolean isDoing(int doing, int variable, int part, int many) {
        if (doing < NOTHING || doing > END) {
            return false;
        }
        if (doing == NOTHING) {
            return true;
        }
        if (!isVariable(variable)) {
            return false;
        }
        // Not part + many, which could wrap around.
        return !isOfSomeParts(doing)
            || (part >= 0 && many >= 1 && part <= variableParts[variable] - many);
    }

    private static boolean isOfSomeParts(int doing) {
        return doing == GIVE || doing == MOVE || doing == USE;
    }

    private int bitsOfDoing(int doing, int variable, int part, int many) {
        if (doing == NOTHING) {
            return 0;
        }
        return isOfSomeParts(doing) ? lowBits(many) << part : allParts(variable);
    }

    private static int lowBits(int many) {
        return (1 << many) - 1;
    }

    private int allParts(int variable) {
        return lowBits(variableParts[variable]);
    }

    private static int wordOf(int variable) {
        return variable / VARIABLES_IN_WORD;
    }

    private static int shiftOf(int variable) {
        return variable % VARIABLES_IN_WORD * MAX_PARTS;
    }

    private static long inWord(int variable, int bits) {
        return (long) bits << shiftOf(variable);
    }

    private int bitsAhead(int point, int variable, int kind) {
        if (!isPoint(point) || !isVariable(variable)) {
            return 0;
        }
        solve();
        return solvedBits(point, variable, kind);
    }

    private int solvedBits(int point, int variable, int kind) {
        long word = ahead[point * SPAN + kind + wordOf(variable)];
        return (int) (word >>> shiftOf(variable)) & lowBits(MAX_PARTS);
    }

    private int faultOfPoint(int point) {
        if (!reached[point]) {
            return NO_FAULT;
        }
        int doing = pointDoing[point];
        int variable = pointVariable[point];
        if (doing == MOVE || doing == USE) {
            int missing = solvedBits(point, variable, WITHOUT) & pointBits[point];
            return missing != 0 ? FAULT_WITHOUT_VALUE : NO_FAULT;
        }
        if (doing != GIVE || !variableOnce[variable]) {
            return NO_FAULT;
        }
        if (pointBits[point] != allParts(variable)) {
            return FAULT_GIVEN_IN_PARTS;
        }
        return solvedBits(point, variable, HAVING) != 0 ? FAULT_GIVEN_AGAIN : NO_FAULT;
    }

    private int countReached() {
        solve();
        int sum = 0;
        for (int point = 0; point < pointCount; point++) {
            if (reached[point]) {
                sum++;
            }
        }
        return sum;
    }

    private int countFaults() {
        solve();
        int sum = 0;
        for (int point = 0; point < pointCount; point++) {
            if (faultOfPoint(point) != NO_FAULT) {
                sum++;
            }
        }
        return sum;
    }

    private int firstFault() {
        solve();
        for (int point = 0; point < pointCount; point++) {
            if (faultOfPoint(point) != NO_FAULT) {
                return point;
            }
        }
        return NONE;
    }

    private int countParts() {
        int sum = 0;
        for (int variable = 0; variable < variableCount; variable++) {
            sum += variableParts[variable];
        }
        return sum;
    }

    // Each doing acts on a part alike whatever came before it, so joining the bits where ways
    // meet loses nothing against following each way by itself.
    private void solve() {
        if (solved) {
            return;
        }
        forgetFlow();
        beginWays();
        for (int turn = 0; turn < MAX_TURNS && waitingCount > 0; turn++) {
            int point = takeWaiting();
            passThrough(point);
            goOnTo(pointNextX[point]);
            goOnTo(pointNextY[point]);
        }
        solved = true;
    }

    private void forgetFlow() {
        waitingHead = 0;
        waitingCount = 0;
        for (int point = 0; point < pointCount; point++) {
            reached[point] = false;
            isWaiting[point] = false;
        }
        for (int word = 0; word < pointCount * SPAN; word++) {
            ahead[word] = 0L;
        }
    }

    private void beginWays() {
        for (int word = 0; word < SPAN; word++) {
            behind[word] = 0L;
        }
        for (int variable = 0; variable < variableCount; variable++) {
            int kind = variableGiven[variable] ? HAVING : WITHOUT;
            behind[kind + wordOf(variable)] |= inWord(variable, allParts(variable));
        }
        goOnTo(0);
    }

    private void passThrough(int point) {
        int from = point * SPAN;
        for (int word = 0; word < SPAN; word++) {
            behind[word] = ahead[from + word];
        }
        int doing = pointDoing[point];
        if (doing == NOTHING || doing == USE) {
            return;
        }
        int variable = pointVariable[point];
        long bits = inWord(variable, pointBits[point]);
        int word = wordOf(variable);
        int gained = doing == GIVE ? HAVING : WITHOUT;
        int lost = doing == GIVE ? WITHOUT : HAVING;
        behind[gained + word] |= bits;
        behind[lost + word] &= ~bits;
    }

    private void goOnTo(int point) {
        if (!isPoint(point)) {
            return;
        }
        boolean changed = !reached[point];
        reached[point] = true;
        int to = point * SPAN;
        for (int word = 0; word < SPAN; word++) {
            long joined = ahead[to + word] | behind[word];
            changed = changed || joined != ahead[to + word];
            ahead[to + word] = joined;
        }
        if (changed) {
            addWaiting(point);
        }
    }

    // A point stands in the ring at most once, so the ring has room for all of them.
    private void addWaiting(int point) {
        if (isWaiting[point] || waitingCount >= MAX_POINTS) {
            return;
        }
        isWaiting[point] = true;
        waiting[(waitingHead + waitingCount) % MAX_POINTS] = point;
        waitingCount++;
    }

    private int takeWaiting() {
        int point = waiting[waitingHead];
        waitingHead = (waitingHead + 1) % MAX_POINTS;
        waitingCount--;
        isWaiting[point] = false;
        return point;
    }
}
