import java.util.Arrays;

/**
 * A step-by-step simplifier for small regular expressions, with an exact equivalence test and a
 * search for the smallest expression that the rewrite rules can reach.
 */
public final class RegexSimplifier {
    public static final int MALFORMED = -1;
    public static final int NO_SUCH_RULE = -2;
    public static final int NO_SUCH_POSITION = -3;
    public static final int NOT_APPLICABLE = -4;
    public static final int OUT_OF_RANGE = -5;
    public static final int LIMIT_EXCEEDED = -6;
    public static final int NONE = -9;

    private static final int EMPTY_SET = 1;
    private static final int EMPTY_WORD = 2;
    private static final int FIRST_SYMBOL = 3;
    private static final int LAST_SYMBOL = 5;
    private static final int UNION = 6;
    private static final int CONCATENATION = 7;
    private static final int STAR = 8;

    private static final int MOST_DIGITS = 18;
    private static final int SYMBOLS = 3;
    private static final int RULES = 16;
    private static final int LONGEST_COUNTED_WORD = 6;
    private static final int MOST_MET = 60;

    /** Every step makes the expression smaller, so 18 digits allow at most 17 steps. */
    private static final int MOST_STEPS = MOST_DIGITS - 1;

    /** No expression has the code 0, so it can stand for "there is none". */
    private static final long NO_CODE = 0;

    private final Expression given;
    private final Automaton firstAutomaton;
    private final Automaton secondAutomaton;
    private final Comparison comparison;
    private final Search search;
    private final Steps steps;
    private long currentCode;

    public RegexSimplifier() {
        given = new Expression();
        firstAutomaton = new Automaton();
        secondAutomaton = new Automaton();
        comparison = new Comparison();
        search = new Search();
        steps = new Steps();
        currentCode = EMPTY_SET;
    }

    public int size(long regex) {
        return given.read(regex) ? given.nodeCount() : MALFORMED;
    }

    public int starHeight(long regex) {
        return given.read(regex) ? given.deepestStars() : MALFORMED;
    }

    public int matchesEmptyWord(long regex) {
        if (!given.read(regex)) {
            return MALFORMED;
        }
        firstAutomaton.build(given);
        return firstAutomaton.accepts(Automaton.START) ? 1 : 0;
    }

    public int countWords(long regex, int length) {
        if (!given.read(regex)) {
            return MALFORMED;
        }
        if (length < 0 || length > LONGEST_COUNTED_WORD) {
            return OUT_OF_RANGE;
        }
        firstAutomaton.build(given);
        return firstAutomaton.acceptedWords(length);
    }

    public int differenceLength(long first, long second) {
        if (!compare(first, second)) {
            return MALFORMED;
        }
        return comparison.foundWord() ? comparison.wordLength() : NONE;
    }

    public int differenceSymbol(long first, long second, int index) {
        if (!compare(first, second)) {
            return MALFORMED;
        }
        if (!comparison.foundWord()) {
            return NONE;
        }
        if (index < 0 || index >= comparison.wordLength()) {
            return OUT_OF_RANGE;
        }
        return comparison.wordSymbol(index);
    }

    public int isApplicable(long regex, int rule, int position) {
        if (!given.read(regex)) {
            return MALFORMED;
        }
        int error = addressError(given, rule, position);
        if (error != 0) {
            return error;
        }
        return Rules.fits(given, rule, position) ? 1 : 0;
    }

    public long rewrite(long regex, int rule, int position) {
        return given.read(regex) ? stepResult(given, rule, position) : MALFORMED;
    }

    public int firstPosition(long regex) {
        return given.read(regex) ? Rules.firstFittingPosition(given) : MALFORMED;
    }

    public int firstRule(long regex) {
        if (!given.read(regex)) {
            return MALFORMED;
        }
        return Rules.firstFittingRule(given, Rules.firstFittingPosition(given));
    }

    public int load(long regex) {
        if (!given.read(regex)) {
            return MALFORMED;
        }
        currentCode = regex;
        steps.forgetAll();
        return given.nodeCount();
    }

    public long current() {
        return currentCode;
    }

    public int apply(int rule, int position) {
        given.read(currentCode);
        long result = stepResult(given, rule, position);
        if (result < 0) {
            return (int) result;
        }
        take(result, rule, position);
        return Code.digitCount(result);
    }

    public int simplify() {
        for (int taken = 0; taken < MOST_STEPS; taken++) {
            given.read(currentCode);
            int position = Rules.firstFittingPosition(given);
            if (position == NONE) {
                return taken;
            }
            int rule = Rules.firstFittingRule(given, position);
            take(stepResult(given, rule, position), rule, position);
        }
        return MOST_STEPS;
    }

    public int undo(int count) {
        if (count < 0 || count > steps.recorded()) {
            return OUT_OF_RANGE;
        }
        if (count > 0) {
            currentCode = steps.takeBack(count);
        }
        return steps.recorded();
    }

    public int stepCount() {
        return steps.recorded();
    }

    public int stepRule(int index) {
        return steps.ruleAt(index);
    }

    public int stepPosition(int index) {
        return steps.positionAt(index);
    }

    public int applicableCount() {
        given.read(currentCode);
        int pairs = 0;
        for (int position = 0; position < given.nodeCount(); position++) {
            for (int rule = 0; rule < RULES; rule++) {
                if (Rules.fits(given, rule, position)) {
                    pairs++;
                }
            }
        }
        return pairs;
    }

    public long smallest() {
        return search.run(currentCode) ? search.answer() : LIMIT_EXCEEDED;
    }

    public int smallestDistance() {
        return search.run(currentCode) ? search.answerDistance() : LIMIT_EXCEEDED;
    }

    public int reachableCount() {
        return search.run(currentCode) ? search.metCount() : LIMIT_EXCEEDED;
    }

    /** False if one of the expressions is malformed. */
    private boolean compare(long first, long second) {
        if (!given.read(first)) {
            return false;
        }
        firstAutomaton.build(given);
        if (!given.read(second)) {
            return false;
        }
        secondAutomaton.build(given);
        comparison.run(firstAutomaton, secondAutomaton);
        return true;
    }

    private void take(long result, int rule, int position) {
        steps.record(currentCode, rule, position);
        currentCode = result;
    }

    private static int addressError(Expression expression, int rule, int position) {
        if (rule < 0 || rule >= RULES) {
            return NO_SUCH_RULE;
        }
        return expression.has(position) ? 0 : NO_SUCH_POSITION;
    }

    private static long stepResult(Expression expression, int rule, int position) {
        int error = addressError(expression, rule, position);
        if (error != 0) {
            return error;
        }
        long replacement = Rules.replacement(expression, rule, position);
        if (replacement == NO_CODE) {
            return NOT_APPLICABLE;
        }
        return expression.withReplaced(position, replacement);
    }

    /** Arithmetic on encoded expressions; their digits are 1 to 8, so none of them begins with 0. */
    private static final class Code {
        private static final long[] POWERS_OF_TEN = {
            1L, 10L, 100L, 1_000L, 10_000L, 100_000L, 1_000_000L, 10_000_000L, 100_000_000L,
            1_000_000_000L, 10_000_000_000L, 100_000_000_000L, 1_000_000_000_000L,
            10_000_000_000_000L, 100_000_000_000_000L, 1_000_000_000_000_000L,
            10_000_000_000_000_000L, 100_000_000_000_000_000L, 1_000_000_000_000_000_000L
        };

        /** At least 1 for every argument, so that it is safe as a divisor. */
        static long powerOfTen(int exponent) {
            boolean known = exponent >= 0 && exponent < POWERS_OF_TEN.length;
            return known ? POWERS_OF_TEN[exponent] : 1L;
        }

        static int digitCount(long code) {
            int count = 1;
            while (count < POWERS_OF_TEN.length && code >= POWERS_OF_TEN[count]) {
                count++;
            }
            return count;
        }

        static long append(long head, long tail) {
            long shift = 10;
            for (int digits = 1; digits < MOST_DIGITS && tail >= shift; digits++) {
                shift *= 10;
            }
            return head * shift + tail;
        }

        static long union(long left, long right) {
            return append(append(UNION, left), right);
        }

        static long concatenation(long left, long right) {
            return append(append(CONCATENATION, left), right);
        }

        static long star(long operand) {
            return append(STAR, operand);
        }
    }

    /** The syntax tree of one expression, addressed by the positions of its nodes. */
    private static final class Expression {
        private final int[] kinds = new int[MOST_DIGITS];
        private final int[] ends = new int[MOST_DIGITS];
        private final long[] codes = new long[MOST_DIGITS];
        private int nodes;

        /** False, with an expression without nodes left behind, if the number is malformed. */
        boolean read(long regex) {
            nodes = 0;
            if (regex <= 0 || regex >= Code.powerOfTen(MOST_DIGITS)) {
                return false;
            }
            int count = Code.digitCount(regex);
            for (int position = count - 1; position >= 0; position--) {
                long rest = regex % Code.powerOfTen(count - position);
                kinds[position] = (int) (rest / Code.powerOfTen(count - position - 1));
                ends[position] = endOfNode(position, count);
                if (ends[position] > count) {
                    return false;
                }
                codes[position] = rest / Code.powerOfTen(count - ends[position]);
            }
            if (ends[0] != count) {
                return false;
            }
            nodes = count;
            return true;
        }

        /** The nodes behind the position are read already; beyond count if no expression begins here. */
        private int endOfNode(int position, int count) {
            int kind = kinds[position];
            if (kind >= EMPTY_SET && kind <= LAST_SYMBOL) {
                return position + 1;
            }
            int operand = position + 1;
            if (operand >= count || kind < UNION || kind > STAR) {
                return count + 1;
            }
            int operandEnd = ends[operand];
            if (kind == STAR) {
                return operandEnd;
            }
            return operandEnd < count ? ends[operandEnd] : count + 1;
        }

        int nodeCount() {
            return nodes;
        }

        boolean has(int position) {
            return position >= 0 && position < nodes;
        }

        int kindAt(int position) {
            return position >= 0 && position < nodes ? kinds[position] : 0;
        }

        long codeAt(int position) {
            return position >= 0 && position < nodes ? codes[position] : NO_CODE;
        }

        /** The left operand, or the only one. */
        int leftOf(int position) {
            return position + 1;
        }

        /** The right operand; of a star, what stands behind it. */
        int rightOf(int position) {
            return position >= -1 && position < nodes - 1 ? ends[position + 1] : nodes;
        }

        /** The code of what is starred at the position, NO_CODE if there is no star. */
        long starredAt(int position) {
            boolean starred = position >= 0 && position < nodes - 1 && kinds[position] == STAR;
            return starred ? codes[position + 1] : NO_CODE;
        }

        int deepestStars() {
            int deepest = 0;
            for (int position = 0; position < nodes; position++) {
                deepest = Math.max(deepest, starsAround(position));
            }
            return deepest;
        }

        private int starsAround(int position) {
            int stars = 0;
            for (int above = 0; above <= position && above < nodes; above++) {
                if (kinds[above] == STAR && ends[above] > position) {
                    stars++;
                }
            }
            return stars;
        }

        /** The code of the whole with the node at the position replaced. */
        long withReplaced(int position, long replacement) {
            if (position < 0 || position >= nodes) {
                return NO_CODE;
            }
            int behind = nodes - ends[position];
            long head = codes[0] / Code.powerOfTen(nodes - position);
            long tail = codes[0] % Code.powerOfTen(behind);
            return Code.append(head, replacement) * Code.powerOfTen(behind) + tail;
        }
    }

    /**
     * The 16 rules. A rule's function gives what the node is replaced by, or NO_CODE where none of the
     * rule's left sides fits the operands.
     */
    private static final class Rules {
        private static final int[] ROOT_KINDS = {
            UNION, CONCATENATION, CONCATENATION, STAR, UNION, STAR, STAR, CONCATENATION,
            UNION, UNION, UNION, UNION, UNION, STAR, STAR, UNION
        };

        static boolean fits(Expression tree, int rule, int position) {
            return replacement(tree, rule, position) != NO_CODE;
        }

        static int firstFittingPosition(Expression tree) {
            for (int position = 0; position < tree.nodeCount(); position++) {
                if (firstFittingRule(tree, position) != NONE) {
                    return position;
                }
            }
            return NONE;
        }

        static int firstFittingRule(Expression tree, int position) {
            for (int rule = 0; rule < RULES; rule++) {
                if (replacement(tree, rule, position) != NO_CODE) {
                    return rule;
                }
            }
            return NONE;
        }

        static long replacement(Expression tree, int rule, int position) {
            boolean known = rule >= 0 && rule < ROOT_KINDS.length;
            if (!known || tree.kindAt(position) != ROOT_KINDS[rule]) {
                return NO_CODE;
            }
            int left = tree.leftOf(position);
            int right = tree.rightOf(position);
            switch (rule) {
                case 0:
                    return besideUnit(tree, EMPTY_SET, left, right);
                case 1:
                    return concatenatedEmptySet(tree, left, right);
                case 2:
                    return besideUnit(tree, EMPTY_WORD, left, right);
                case 3:
                    return starOfNothing(tree, left);
                case 4:
                    return unionOfSame(tree, left, right);
                case 5:
                    return starOfStar(tree, left);
                case 6:
                    return starOfOptional(tree, left);
                case 7:
                    return sameStarTwice(tree, left, right);
                case 8:
                    return starOrEmptyWord(tree, left, right);
                case 9:
                    return besideItsStar(tree, left, right);
                case 10:
                    return sharedFront(tree, left, right);
                case 11:
                    return sharedBack(tree, left, right);
                case 12:
                    return optionalRepetition(tree, left, right);
                case 13:
                    return starOfUnionWithStar(tree, left);
                case 14:
                    return starOfTwoStars(tree, left);
                case 15:
                    return repeatedInInnerUnion(tree, left, right);
                default:
                    return NO_CODE;
            }
        }

        /** The other operand, where one of them is the unit; the unit is looked for on the left first. */
        private static long besideUnit(Expression tree, int unit, int left, int right) {
            if (tree.codeAt(left) == unit) {
                return tree.codeAt(right);
            }
            return tree.codeAt(right) == unit ? tree.codeAt(left) : NO_CODE;
        }

        private static long concatenatedEmptySet(Expression tree, int left, int right) {
            boolean holds = tree.codeAt(left) == EMPTY_SET || tree.codeAt(right) == EMPTY_SET;
            return holds ? EMPTY_SET : NO_CODE;
        }

        private static long starOfNothing(Expression tree, int operand) {
            long code = tree.codeAt(operand);
            return code == EMPTY_SET || code == EMPTY_WORD ? EMPTY_WORD : NO_CODE;
        }

        private static long unionOfSame(Expression tree, int left, int right) {
            return tree.codeAt(left) == tree.codeAt(right) ? tree.codeAt(left) : NO_CODE;
        }

        private static long starOfStar(Expression tree, int operand) {
            return tree.kindAt(operand) == STAR ? tree.codeAt(operand) : NO_CODE;
        }

        private static long starOfOptional(Expression tree, int operand) {
            if (tree.kindAt(operand) != UNION) {
                return NO_CODE;
            }
            long kept = besideUnit(tree, EMPTY_WORD, tree.leftOf(operand), tree.rightOf(operand));
            return kept == NO_CODE ? NO_CODE : Code.star(kept);
        }

        private static long sameStarTwice(Expression tree, int left, int right) {
            boolean same = tree.codeAt(left) == tree.codeAt(right);
            return same && tree.kindAt(left) == STAR ? tree.codeAt(left) : NO_CODE;
        }

        private static long starOrEmptyWord(Expression tree, int left, int right) {
            if (tree.codeAt(left) == EMPTY_WORD && tree.kindAt(right) == STAR) {
                return tree.codeAt(right);
            }
            boolean mirrored = tree.kindAt(left) == STAR && tree.codeAt(right) == EMPTY_WORD;
            return mirrored ? tree.codeAt(left) : NO_CODE;
        }

        /** The star, where one of two neighbours is the star of the other. */
        private static long besideItsStar(Expression tree, int left, int right) {
            if (tree.starredAt(right) == tree.codeAt(left)) {
                return tree.codeAt(right);
            }
            return tree.starredAt(left) == tree.codeAt(right) ? tree.codeAt(left) : NO_CODE;
        }

        private static boolean bothConcatenations(Expression tree, int left, int right) {
            return tree.kindAt(left) == CONCATENATION && tree.kindAt(right) == CONCATENATION;
        }

        private static long sharedFront(Expression tree, int left, int right) {
            long front = tree.codeAt(tree.leftOf(left));
            if (!bothConcatenations(tree, left, right) || front != tree.codeAt(tree.leftOf(right))) {
                return NO_CODE;
            }
            long backs = Code.union(tree.codeAt(tree.rightOf(left)), tree.codeAt(tree.rightOf(right)));
            return Code.concatenation(front, backs);
        }

        private static long sharedBack(Expression tree, int left, int right) {
            long back = tree.codeAt(tree.rightOf(left));
            if (!bothConcatenations(tree, left, right) || back != tree.codeAt(tree.rightOf(right))) {
                return NO_CODE;
            }
            long fronts = Code.union(tree.codeAt(tree.leftOf(left)), tree.codeAt(tree.leftOf(right)));
            return Code.concatenation(fronts, back);
        }

        private static long optionalRepetition(Expression tree, int left, int right) {
            boolean optionalRight = tree.codeAt(left) == EMPTY_WORD;
            boolean optionalLeft = tree.codeAt(right) == EMPTY_WORD;
            int repetition = optionalRight ? right : left;
            if (!optionalRight && !optionalLeft || tree.kindAt(repetition) != CONCATENATION) {
                return NO_CODE;
            }
            return besideItsStar(tree, tree.leftOf(repetition), tree.rightOf(repetition));
        }

        private static long starOfUnionWithStar(Expression tree, int operand) {
            if (tree.kindAt(operand) != UNION) {
                return NO_CODE;
            }
            int left = tree.leftOf(operand);
            int right = tree.rightOf(operand);
            if (tree.kindAt(left) == STAR) {
                return Code.star(Code.union(tree.starredAt(left), tree.codeAt(right)));
            }
            if (tree.kindAt(right) == STAR) {
                return Code.star(Code.union(tree.codeAt(left), tree.starredAt(right)));
            }
            return NO_CODE;
        }

        private static long starOfTwoStars(Expression tree, int operand) {
            if (tree.kindAt(operand) != CONCATENATION) {
                return NO_CODE;
            }
            long left = tree.starredAt(tree.leftOf(operand));
            long right = tree.starredAt(tree.rightOf(operand));
            boolean bothStars = left != NO_CODE && right != NO_CODE;
            return bothStars ? Code.star(Code.union(left, right)) : NO_CODE;
        }

        private static long repeatedInInnerUnion(Expression tree, int left, int right) {
            if (tree.kindAt(right) != UNION) {
                return NO_CODE;
            }
            long repeated = tree.codeAt(left);
            long innerLeft = tree.codeAt(tree.leftOf(right));
            long innerRight = tree.codeAt(tree.rightOf(right));
            if (repeated == innerLeft) {
                return Code.union(repeated, innerRight);
            }
            return repeated == innerRight ? Code.union(repeated, innerLeft) : NO_CODE;
        }
    }

    /**
     * The position automaton of an expression: a start state and one state for each symbol in the
     * expression. A set of states is a mask with one bit for each of them.
     */
    private static final class Automaton {
        /** The set that holds the start state alone. */
        static final int START = 1;

        /** 18 digits hold at most 9 leaves, and the start state comes on top. */
        static final int MOST_STATES = 10;
        static final int SETS = 1 << MOST_STATES;

        private final boolean[] emptyWord = new boolean[MOST_DIGITS];
        private final int[] firsts = new int[MOST_DIGITS];
        private final int[] lasts = new int[MOST_DIGITS];
        private final int[] followers = new int[MOST_STATES];
        private final int[] readers = new int[SYMBOLS];
        private int accepting;
        private int states;

        void build(Expression tree) {
            Arrays.fill(followers, 0);
            Arrays.fill(readers, 0);
            states = 1;
            // Operands stand behind their operator, so going backwards meets them first.
            for (int position = tree.nodeCount() - 1; position >= 0; position--) {
                addNode(tree, position);
            }
            followers[0] = firsts[0];
            accepting = emptyWord[0] ? lasts[0] | START : lasts[0];
        }

        boolean accepts(int set) {
            return (set & accepting) != 0;
        }

        /** All states that can be entered next, by whatever symbol. */
        int followersOf(int set) {
            int all = 0;
            for (int state = 0; state < states; state++) {
                if ((set >> state & 1) != 0) {
                    all |= followers[state];
                }
            }
            return all;
        }

        /** Those states of a set that are entered by reading the symbol. */
        int readersOf(int symbol, int set) {
            return symbol >= 0 && symbol < SYMBOLS ? readers[symbol] & set : 0;
        }

        int acceptedWords(int length) {
            return wordsFrom(this, START, length);
        }

        /** How many words of the length lead from the set to acceptance. */
        private static int wordsFrom(Automaton automaton, int set, int length) {
            if (set == 0) {
                return 0;
            }
            if (length <= 0 || length > LONGEST_COUNTED_WORD) {
                return automaton.accepts(set) ? 1 : 0;
            }
            int next = automaton.followersOf(set);
            int words = 0;
            for (int symbol = 0; symbol < SYMBOLS; symbol++) {
                words += wordsFrom(automaton, automaton.readersOf(symbol, next), length - 1);
            }
            return words;
        }

        private void addNode(Expression tree, int position) {
            int left = tree.leftOf(position);
            int right = tree.rightOf(position);
            int kind = tree.kindAt(position);
            if (kind == STAR && left < MOST_DIGITS) {
                addStar(position, left);
            } else if (kind == UNION && left < MOST_DIGITS && right < MOST_DIGITS) {
                addUnion(position, left, right);
            } else if (kind == CONCATENATION && left < MOST_DIGITS && right < MOST_DIGITS) {
                addConcatenation(position, left, right);
            } else {
                addLeaf(position, kind);
            }
        }

        private void addLeaf(int position, int kind) {
            int set = 0;
            if (kind >= FIRST_SYMBOL && kind <= LAST_SYMBOL && states < MOST_STATES) {
                set = 1 << states;
                readers[kind - FIRST_SYMBOL] |= set;
                states++;
            }
            emptyWord[position] = kind == EMPTY_WORD;
            firsts[position] = set;
            lasts[position] = set;
        }

        private void addStar(int position, int operand) {
            emptyWord[position] = true;
            firsts[position] = firsts[operand];
            lasts[position] = lasts[operand];
            link(lasts[operand], firsts[operand]);
        }

        private void addUnion(int position, int left, int right) {
            emptyWord[position] = emptyWord[left] || emptyWord[right];
            firsts[position] = firsts[left] | firsts[right];
            lasts[position] = lasts[left] | lasts[right];
        }

        private void addConcatenation(int position, int left, int right) {
            emptyWord[position] = emptyWord[left] && emptyWord[right];
            firsts[position] = emptyWord[left] ? firsts[left] | firsts[right] : firsts[left];
            lasts[position] = emptyWord[right] ? lasts[left] | lasts[right] : lasts[right];
            link(lasts[left], firsts[right]);
        }

        private void link(int from, int to) {
            for (int state = 0; state < states; state++) {
                if ((from >> state & 1) != 0) {
                    followers[state] |= to;
                }
            }
        }
    }

    /**
     * Looks for the first word, by length and then by symbols, that one automaton accepts and the
     * other does not. Pairs of sets are met in the order of the words that lead to them. A pair is
     * passed over if the pairs met before already tie its sets together by a chain: a word that
     * tells its sets apart would tell apart the sets of a pair in the chain, which an earlier word
     * leads to, so the first word never goes through a pair that is passed over.
     */
    private static final class Comparison {
        /** Sets of the first automaton come in front of those of the second. */
        private static final int KEYS = 2 * Automaton.SETS;

        /**
         * A set that is reached holds the start state alone or states that read one symbol, so an
         * automaton with 9 such states reaches at most 513 sets, and each pair that is met ties
         * together two of at most 1026 groups.
         */
        private static final int MOST_PAIRS = 1025;

        private final int[] ties = new int[KEYS];
        private final int[] firstSets = new int[MOST_PAIRS];
        private final int[] secondSets = new int[MOST_PAIRS];
        private final int[] origins = new int[MOST_PAIRS];
        private final int[] symbols = new int[MOST_PAIRS];
        private int pairs;
        private int telling;

        void run(Automaton first, Automaton second) {
            Arrays.fill(ties, NONE);
            pairs = 0;
            telling = NONE;
            meet(Automaton.START, Automaton.START, 0, 0);
            checkLatest(first, second);
            for (int pair = 0; pair < pairs && pair < MOST_PAIRS && telling == NONE; pair++) {
                expand(first, second, pair);
            }
        }

        boolean foundWord() {
            return telling != NONE;
        }

        int wordLength() {
            int length = 0;
            int pair = telling;
            while (length < MOST_PAIRS && pair > 0 && pair < MOST_PAIRS) {
                pair = origins[pair];
                length++;
            }
            return length;
        }

        int wordSymbol(int index) {
            int pair = telling;
            for (int at = wordLength() - 1; at > index && pair > 0 && pair < MOST_PAIRS; at--) {
                pair = origins[pair];
            }
            return pair > 0 && pair < MOST_PAIRS ? symbols[pair] : 0;
        }

        private void expand(Automaton first, Automaton second, int pair) {
            if (pair < 0 || pair >= MOST_PAIRS) {
                return;
            }
            int firstNext = first.followersOf(firstSets[pair]);
            int secondNext = second.followersOf(secondSets[pair]);
            for (int symbol = 0; symbol < SYMBOLS && telling == NONE; symbol++) {
                int firstSet = first.readersOf(symbol, firstNext);
                int secondSet = second.readersOf(symbol, secondNext);
                if (meet(firstSet, secondSet, pair, symbol)) {
                    checkLatest(first, second);
                }
            }
        }

        /** False if the pair is passed over. */
        private boolean meet(int firstSet, int secondSet, int origin, int symbol) {
            int firstGroup = groupOf(firstSet);
            int secondGroup = groupOf(Automaton.SETS + secondSet);
            if (firstGroup == secondGroup || pairs >= MOST_PAIRS) {
                return false;
            }
            ties[firstGroup] = secondGroup;
            firstSets[pairs] = firstSet;
            secondSets[pairs] = secondSet;
            origins[pairs] = origin;
            symbols[pairs] = symbol;
            pairs++;
            return true;
        }

        private void checkLatest(Automaton first, Automaton second) {
            int latest = pairs - 1;
            if (latest < 0 || latest >= MOST_PAIRS) {
                return;
            }
            if (first.accepts(firstSets[latest]) != second.accepts(secondSets[latest])) {
                telling = latest;
            }
        }

        /** The key that stands for all keys tied to this one. */
        private int groupOf(int key) {
            int group = key >= 0 && key < KEYS ? key : 0;
            for (int hops = 0; hops < KEYS && ties[group] >= 0; hops++) {
                group = ties[group];
            }
            return group;
        }
    }

    /** The breadth-first search through all expressions that steps can make of one. */
    private static final class Search {
        private final Expression expanded = new Expression();
        private final long[] met = new long[MOST_MET];
        private final int[] distances = new int[MOST_MET];
        private int count;

        /** False if more than 60 expressions are met. */
        boolean run(long origin) {
            met[0] = origin;
            distances[0] = 0;
            count = 1;
            for (int index = 0; index < count && index < MOST_MET; index++) {
                if (!expand(index)) {
                    return false;
                }
            }
            return true;
        }

        int metCount() {
            return count;
        }

        long answer() {
            return met[answerIndex()];
        }

        int answerDistance() {
            return distances[answerIndex()];
        }

        private int answerIndex() {
            int best = 0;
            for (int index = 1; index < count && index < MOST_MET; index++) {
                if (Code.digitCount(met[index]) < Code.digitCount(met[best])) {
                    best = index;
                }
            }
            return best;
        }

        private boolean expand(int index) {
            if (index < 0 || index >= MOST_MET) {
                return false;
            }
            expanded.read(met[index]);
            int distance = distances[index] + 1;
            for (int position = 0; position < expanded.nodeCount(); position++) {
                for (int rule = 0; rule < RULES; rule++) {
                    long replacement = Rules.replacement(expanded, rule, position);
                    boolean fits = replacement != NO_CODE;
                    if (fits && !meet(expanded.withReplaced(position, replacement), distance)) {
                        return false;
                    }
                }
            }
            return true;
        }

        /** False if the expression is new and there is no room left for it. */
        private boolean meet(long code, int distance) {
            for (int index = 0; index < count && index < MOST_MET; index++) {
                if (met[index] == code) {
                    return true;
                }
            }
            if (count >= MOST_MET) {
                return false;
            }
            met[count] = code;
            distances[count] = distance;
            count++;
            return true;
        }
    }

    /** The recorded steps, each with the expression in front of it. */
    private static final class Steps {
        private final long[] before = new long[MOST_STEPS];
        private final int[] rules = new int[MOST_STEPS];
        private final int[] positions = new int[MOST_STEPS];
        private int count;

        int recorded() {
            return count;
        }

        void forgetAll() {
            count = 0;
        }

        void record(long code, int rule, int position) {
            if (count < 0 || count >= MOST_STEPS) {
                return;
            }
            before[count] = code;
            rules[count] = rule;
            positions[count] = position;
            count++;
        }

        /** The expression in front of the steps that are taken back, 1 of them at least. */
        long takeBack(int steps) {
            int left = count - steps;
            if (left < 0 || left >= MOST_STEPS) {
                return EMPTY_SET;
            }
            count = left;
            return before[left];
        }

        int ruleAt(int index) {
            return index >= 0 && index < count ? rules[index] : OUT_OF_RANGE;
        }

        int positionAt(int index) {
            return index >= 0 && index < count ? positions[index] : OUT_OF_RANGE;
        }
    }
}
