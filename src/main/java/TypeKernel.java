/**
 * A kernel for dependent types with rewrite rules. Terms are rows of numbers, each written before its
 * parts, and come only with their types, on a stack of judgements.
 *
 * <p>All rows are made with the object and used again, so that no call makes anything but an exception.
 */
public final class TypeKernel {
    private static final int TYPE = 0;
    private static final int KIND = 1;
    private static final int APPLICATION = 2;
    private static final int LAMBDA = 3;
    private static final int PRODUCT = 4;
    private static final int CONSTANT = 10;
    private static final int VARIABLE = 100;

    private static final int ROW_LIMIT = 40;
    private static final int STEP_LIMIT = 50;
    private static final int STACK_LIMIT = 6;
    private static final int CONTEXT_LIMIT = 4;
    private static final int CONSTANT_LIMIT = 8;
    private static final int RULE_LIMIT = 8;

    private static final int NONE = -1;

    /** Lowest first; only the first judgementCount of them count. */
    private final Judgement[] stack = new Judgement[STACK_LIMIT];
    private int judgementCount = 0;

    /** Oldest first; only the first entryCount of them count. */
    private final Row[] context = new Row[CONTEXT_LIMIT];
    private int entryCount = 0;

    private final Row[] constantTypes = new Row[CONSTANT_LIMIT];
    private final boolean[] isDefinable = new boolean[CONSTANT_LIMIT];
    private int constantCount = 0;

    private final Rewriter rewriter = new Rewriter();

    // What a call puts together stands in these rows until nothing can refuse the call any more.
    private final Row lowerForm = new Row();
    private final Row upperForm = new Row();
    private final Row newTerm = new Row();
    private final Row newType = new Row();

    public TypeKernel() {
        for (int k = 0; k < STACK_LIMIT; k++) {
            stack[k] = new Judgement();
        }
        for (int k = 0; k < CONTEXT_LIMIT; k++) {
            context[k] = new Row();
        }
        for (int c = 0; c < CONSTANT_LIMIT; c++) {
            constantTypes[c] = new Row();
        }
    }

    public void sort() throws UnsupportedOperationException {
        Judgement judgement = addJudgement();
        judgement.term.become(TYPE);
        judgement.itsType.become(KIND);
    }

    public void constant(int c) throws IndexOutOfBoundsException, UnsupportedOperationException {
        if (!isConstant(c)) {
            throw new IndexOutOfBoundsException();
        }
        Judgement judgement = addJudgement();
        judgement.term.become(CONSTANT + c);
        judgement.itsType.copy(constantTypes[c]);
    }

    public void variable(int i) throws IndexOutOfBoundsException, UnsupportedOperationException {
        if (!isEntry(i)) {
            throw new IndexOutOfBoundsException();
        }
        Judgement judgement = addJudgement();
        judgement.term.become(VARIABLE + i);
        judgement.itsType.clear();
        rewriter.appendLifted(entryAt(i), 0, i + 1, judgement.itsType);
    }

    public void apply() throws IllegalStateException, IllegalArgumentException, ArithmeticException {
        Judgement argument = presentJudgement(0);
        Judgement function = presentJudgement(1);
        rewriter.normalize(function.itsType, lowerForm);
        if (lowerForm.at(0) != PRODUCT) {
            throw new IllegalArgumentException();
        }
        rewriter.normalize(argument.itsType, upperForm);
        int bodyStart = lowerForm.endOf(1);
        if (!upperForm.isPart(lowerForm, 1, bodyStart)) {
            throw new IllegalArgumentException();
        }
        newTerm.join(APPLICATION, function.term, argument.term);
        newType.clear();
        rewriter.appendBodyWith(argument.term, 0, lowerForm, bodyStart, newType);
        function.term.copy(newTerm);
        function.itsType.copy(newType);
        judgementCount--;
    }

    public void assume() throws IllegalStateException, UnsupportedOperationException, IllegalArgumentException {
        Judgement judgement = presentJudgement(0);
        if (entryCount == CONTEXT_LIMIT) {
            throw new UnsupportedOperationException();
        }
        if (!judgement.itsType.is(TYPE)) {
            throw new IllegalArgumentException();
        }
        context[entryCount].copy(judgement.term);
        entryCount++;
        judgementCount--;
    }

    public void lambda() throws IllegalStateException, IllegalArgumentException, ArithmeticException {
        Judgement judgement = onlyPresentJudgement();
        if (judgement.itsType.is(KIND)) {
            throw new IllegalArgumentException();
        }
        newTerm.join(LAMBDA, entryAt(0), judgement.term);
        newType.join(PRODUCT, entryAt(0), judgement.itsType);
        bind(judgement);
    }

    public void product() throws IllegalStateException, IllegalArgumentException, ArithmeticException {
        Judgement judgement = onlyPresentJudgement();
        if (!hasSort(judgement)) {
            throw new IllegalArgumentException();
        }
        newTerm.join(PRODUCT, entryAt(0), judgement.term);
        newType.copy(judgement.itsType);
        bind(judgement);
    }

    public int declare(boolean definable)
            throws IllegalStateException, UnsupportedOperationException, IllegalArgumentException {
        if (entryCount > 0) {
            throw new IllegalStateException();
        }
        Judgement judgement = presentJudgement(0);
        if (constantCount == CONSTANT_LIMIT) {
            throw new UnsupportedOperationException();
        }
        if (!hasSort(judgement)) {
            throw new IllegalArgumentException();
        }
        constantTypes[constantCount].copy(judgement.term);
        isDefinable[constantCount] = definable;
        constantCount++;
        judgementCount--;
        return constantCount - 1;
    }

    public int rule()
            throws IllegalStateException, UnsupportedOperationException, IllegalArgumentException,
                    ArithmeticException {
        Judgement right = presentJudgement(0);
        Judgement left = presentJudgement(1);
        if (judgementCount > 2) {
            throw new IllegalStateException();
        }
        if (rewriter.ruleCount == RULE_LIMIT) {
            throw new UnsupportedOperationException();
        }
        if (!isLeftSide(left.term)) {
            throw new IllegalArgumentException();
        }
        rewriter.normalize(left.itsType, lowerForm);
        rewriter.normalize(right.itsType, upperForm);
        if (!upperForm.equalsRow(lowerForm)) {
            throw new IllegalArgumentException();
        }
        rewriter.addRule(left.term, right.term, entryCount);
        judgementCount = 0;
        entryCount = 0;
        return rewriter.ruleCount - 1;
    }

    public int normal() throws IllegalStateException, ArithmeticException {
        Judgement judgement = neededJudgement(0);
        int steps = rewriter.normalize(judgement.term, newTerm);
        judgement.term.copy(newTerm);
        return steps;
    }

    public boolean same() throws IllegalStateException, ArithmeticException {
        Judgement upper = neededJudgement(0);
        Judgement lower = neededJudgement(1);
        if (upper.entries != lower.entries) {
            throw new IllegalStateException();
        }
        rewriter.normalize(lower.term, lowerForm);
        rewriter.normalize(upper.term, upperForm);
        return upperForm.equalsRow(lowerForm);
    }

    public boolean drop() {
        if (judgementCount == 0) {
            return false;
        }
        judgementCount--;
        return true;
    }

    public boolean leave() {
        if (entryCount == 0 || presentCount() > 0) {
            return false;
        }
        entryCount--;
        return true;
    }

    public int counts() {
        return judgementCount + 8 * entryCount + 64 * constantCount + 1024 * rewriter.ruleCount;
    }

    public int judgement(int k, boolean type, int i) {
        if (!isJudgement(k)) {
            return NONE;
        }
        Judgement judgement = judgementAt(k);
        return type ? judgement.itsType.at(i) : judgement.term.at(i);
    }

    public int made(int k) {
        return isJudgement(k) ? judgementAt(k).entries : NONE;
    }

    public int entry(int k, int i) {
        return isEntry(k) ? entryAt(k).at(i) : NONE;
    }

    public int type(int c, int i) {
        if (!isConstant(c)) {
            return NONE;
        }
        if (i == -1) {
            return isDefinable[c] ? 1 : 0;
        }
        return constantTypes[c].at(i);
    }

    public int side(int r, boolean right, int i) {
        if (r < 0 || r >= rewriter.ruleCount) {
            return NONE;
        }
        Rule rule = rewriter.rules[r];
        if (i == -1) {
            return rule.variables;
        }
        return right ? rule.right.at(i) : rule.left.at(i);
    }

    private boolean isConstant(int c) {
        return c >= 0 && c < constantCount;
    }

    private boolean isEntry(int k) {
        return k >= 0 && k < entryCount;
    }

    private boolean isJudgement(int k) {
        return k >= 0 && k < judgementCount;
    }

    private Row entryAt(int k) {
        return context[entryCount - 1 - k];
    }

    private Judgement judgementAt(int k) {
        return stack[judgementCount - 1 - k];
    }

    private Judgement addJudgement() {
        if (judgementCount == STACK_LIMIT) {
            throw new UnsupportedOperationException();
        }
        judgementCount++;
        Judgement judgement = judgementAt(0);
        judgement.entries = entryCount;
        return judgement;
    }

    private Judgement neededJudgement(int k) {
        if (!isJudgement(k)) {
            throw new IllegalStateException();
        }
        return judgementAt(k);
    }

    private Judgement presentJudgement(int k) {
        Judgement judgement = neededJudgement(k);
        if (judgement.entries != entryCount) {
            throw new IllegalStateException();
        }
        return judgement;
    }

    private Judgement onlyPresentJudgement() {
        Judgement judgement = presentJudgement(0);
        if (entryCount == 0 || presentCount() > 1) {
            throw new IllegalStateException();
        }
        return judgement;
    }

    private int presentCount() {
        int count = 0;
        for (int k = 0; k < judgementCount; k++) {
            if (stack[k].entries == entryCount) {
                count++;
            }
        }
        return count;
    }

    private static boolean hasSort(Judgement judgement) {
        return judgement.itsType.is(TYPE) || judgement.itsType.is(KIND);
    }

    /** Takes the latest entry out of the context and gives the judgement what stands in newTerm and newType. */
    private void bind(Judgement judgement) {
        entryCount--;
        judgement.entries = entryCount;
        judgement.term.copy(newTerm);
        judgement.itsType.copy(newType);
    }

    private boolean isLeftSide(Row row) {
        int head = row.at(row.headOf(0));
        if (!isConstant(head - CONSTANT) || !isDefinable[head - CONSTANT]) {
            return false;
        }
        for (int i = 0; i < row.length; i++) {
            if (!mayStandInPattern(row, i)) {
                return false;
            }
        }
        for (int v = 0; v < entryCount; v++) {
            if (row.countOf(VARIABLE + v) != 1) {
                return false;
            }
        }
        return true;
    }

    /** What comes right behind an application's number is its function, and that is never a variable in a pattern. */
    private static boolean mayStandInPattern(Row row, int i) {
        int number = row.at(i);
        if (number >= VARIABLE) {
            return row.at(i - 1) != APPLICATION;
        }
        return number >= CONSTANT || number == APPLICATION;
    }

    /** A term: every number stands before its parts. */
    private static final class Row {
        private final int[] numbers = new int[ROW_LIMIT];
        private int length = 0;

        int at(int i) {
            return i >= 0 && i < length ? numbers[i] : NONE;
        }

        boolean is(int number) {
            return length == 1 && numbers[0] == number;
        }

        void clear() {
            length = 0;
        }

        void append(int number) {
            if (length == ROW_LIMIT) {
                throw new ArithmeticException();
            }
            numbers[length] = number;
            length++;
        }

        void appendPart(Row source, int start, int end) {
            for (int i = start; i < end; i++) {
                append(source.at(i));
            }
        }

        void become(int number) {
            clear();
            append(number);
        }

        void copy(Row source) {
            System.arraycopy(source.numbers, 0, numbers, 0, source.length);
            length = source.length;
        }

        void join(int number, Row first, Row second) {
            become(number);
            appendPart(first, 0, first.length);
            appendPart(second, 0, second.length);
        }

        /** Where the term that begins at start has ended. */
        int endOf(int start) {
            int awaited = 1;
            int i = start;
            while (i < length && awaited > 0) {
                awaited += hasParts(numbers[i]) ? 1 : -1;
                i++;
            }
            return i;
        }

        /** Where the function stands that the term at start applies to all its arguments. */
        int headOf(int start) {
            int i = start;
            while (i < length && numbers[i] == APPLICATION) {
                i++;
            }
            return i;
        }

        int countOf(int number) {
            int count = 0;
            for (int i = 0; i < length; i++) {
                if (numbers[i] == number) {
                    count++;
                }
            }
            return count;
        }

        boolean isPart(Row other, int start, int end) {
            if (length != end - start) {
                return false;
            }
            for (int i = 0; i < length; i++) {
                if (numbers[i] != other.at(start + i)) {
                    return false;
                }
            }
            return true;
        }

        boolean equalsRow(Row other) {
            return isPart(other, 0, other.length);
        }

        private static boolean hasParts(int number) {
            return number == APPLICATION || number == LAMBDA || number == PRODUCT;
        }
    }

    private static final class Judgement {
        private final Row term = new Row();
        private final Row itsType = new Row();
        /** How many context entries it was made with. */
        private int entries = 0;
    }

    private static final class Rule {
        private final Row left = new Row();
        private final Row right = new Row();
        private int variables = 0;
    }

    /** Goes through one term's numbers and tells how many lambdas and products bind around each. */
    private static final class Walk {
        /** The depths of the parts that are still to come, the next one last; each number adds one at most. */
        private final int[] awaitedDepths = new int[ROW_LIMIT + 1];
        private int awaited = 0;

        void begin() {
            awaitedDepths[0] = 0;
            awaited = 1;
        }

        boolean goesOn() {
            return awaited > 0;
        }

        /** The depth of the next number, which is given. */
        int depthOf(int number) {
            awaited--;
            int depth = awaitedDepths[awaited];
            if (number == APPLICATION || number == LAMBDA || number == PRODUCT) {
                // A binder's domain, which comes first, is not under it.
                awaitedDepths[awaited] = number == APPLICATION ? depth : depth + 1;
                awaitedDepths[awaited + 1] = depth;
                awaited += 2;
            }
            return depth;
        }
    }

    /** The rules, and how terms are brought to their normal form with them. */
    private static final class Rewriter {
        private final Rule[] rules = new Rule[RULE_LIMIT];
        private int ruleCount = 0;

        private Row now = new Row();
        private Row next = new Row();
        /** Where in the row now the term for each variable of the rule that matches begins. */
        private final int[] matchStarts = new int[CONTEXT_LIMIT];
        private final Walk around = new Walk();
        private final Walk inside = new Walk();

        Rewriter() {
            for (int r = 0; r < RULE_LIMIT; r++) {
                rules[r] = new Rule();
            }
        }

        void addRule(Row left, Row right, int variables) {
            Rule rule = rules[ruleCount];
            rule.left.copy(left);
            rule.right.copy(right);
            rule.variables = variables;
            ruleCount++;
        }

        /** Writes the normal form of the term into result and answers how many steps it took. */
        int normalize(Row term, Row result) {
            now.copy(term);
            for (int steps = 0; steps <= STEP_LIMIT; steps++) {
                if (!step()) {
                    result.copy(now);
                    return steps;
                }
            }
            throw new ArithmeticException();
        }

        /** Does the first redex of the row now; false when there is none. */
        private boolean step() {
            for (int start = 0; start < now.length; start++) {
                if (now.at(start) == APPLICATION && now.at(start + 1) == LAMBDA) {
                    doLambda(start);
                    return true;
                }
                int r = firstMatch(start);
                if (r != NONE) {
                    doRule(rules[r], start);
                    return true;
                }
            }
            return false;
        }

        private void doLambda(int start) {
            int bodyStart = now.endOf(start + 2);
            int argumentStart = now.endOf(bodyStart);
            next.clear();
            next.appendPart(now, 0, start);
            appendBodyWith(now, argumentStart, now, bodyStart, next);
            next.appendPart(now, now.endOf(argumentStart), now.length);
            takeNext();
        }

        private void doRule(Rule rule, int start) {
            next.clear();
            next.appendPart(now, 0, start);
            around.begin();
            for (int i = 0; i < rule.right.length && around.goesOn(); i++) {
                int number = rule.right.at(i);
                int depth = around.depthOf(number);
                int variable = number - VARIABLE - depth;
                if (variable >= 0 && variable < rule.variables) {
                    appendLifted(now, matchStarts[variable], depth, next);
                } else {
                    next.append(number);
                }
            }
            next.appendPart(now, now.endOf(start), now.length);
            takeNext();
        }

        private void takeNext() {
            Row before = now;
            now = next;
            next = before;
        }

        private int firstMatch(int start) {
            for (int r = 0; r < ruleCount; r++) {
                if (matches(rules[r], start)) {
                    return r;
                }
            }
            return NONE;
        }

        /** A left side binds nothing and has each variable once, so one way through both rows is enough. */
        private boolean matches(Rule rule, int start) {
            int at = start;
            for (int i = 0; i < rule.left.length; i++) {
                int number = rule.left.at(i);
                int variable = number - VARIABLE;
                if (variable >= 0 && variable < rule.variables) {
                    matchStarts[variable] = at;
                    at = now.endOf(at);
                } else if (now.at(at) == number) {
                    at++;
                } else {
                    return false;
                }
            }
            return true;
        }

        /** Appends the body at bodyStart with the argument at argumentStart put for variable 0. */
        void appendBodyWith(Row argument, int argumentStart, Row body, int bodyStart, Row result) {
            around.begin();
            for (int i = bodyStart; i < body.length && around.goesOn(); i++) {
                int number = body.at(i);
                int depth = around.depthOf(number);
                if (number == VARIABLE + depth) {
                    appendLifted(argument, argumentStart, depth, result);
                } else {
                    result.append(number > VARIABLE + depth ? number - 1 : number);
                }
            }
        }

        /** Appends the term at start with the amount added to each variable that it does not bind itself. */
        void appendLifted(Row term, int start, int amount, Row result) {
            inside.begin();
            for (int i = start; i < term.length && inside.goesOn(); i++) {
                int number = term.at(i);
                int depth = inside.depthOf(number);
                result.append(number >= VARIABLE + depth ? number + amount : number);
            }
        }
    }
}
