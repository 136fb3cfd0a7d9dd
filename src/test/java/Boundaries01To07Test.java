/** The boundary cases of promises 1 to 7, a method for each sentence; its name begins with the promise. */
public final class Boundaries01To07Test {
    private static final Due due = new Due("Boundaries01To07Test");
    private static final int[] FAR_OUTSIDE = {Integer.MIN_VALUE, Integer.MIN_VALUE + 1, -1000, 1000, Integer.MAX_VALUE};

    /** aaaaaaaaa, with the most symbols that fit. */
    private static final long NINE_AS = 73737373737373733L;

    public static void main(String[] args) {
        p01TheEmptySet();
        p01NoSteps();
        p02NumberOfDigits();
        p02Malformed();
        p03ZeroWithoutAStar();
        p03GreatestNumberOnAPath();
        p03Malformed();
        p04OneIfItDoesZeroIfNot();
        p04Malformed();
        p05DistinctWords();
        p05LengthFrom0To6();
        p05Malformed();
        p05LengthIsNot0To6();
        p06ExactlyOneOfTwo();
        p06ShortestWord();
        p06EitherIsMalformed();
        p06NoneIfEquivalent();
        p07FirstInLexicographicOrder();
        p07IndexFrom0();
        p07SymbolFrom0To2();
        p07EitherIsMalformed();
        p07NoneWhateverIndexIs();
        p07NoSuchIndex();
        due.end();
    }

    private static void p01TheEmptySet() {
        due.sentence("Promise 1", "The current expression is the empty set (encoding 1)");
        RegexSimplifier x = new RegexSimplifier();
        due.is("current()", x.current(), 1);
        due.is("smallest()", x.smallest(), 1);
        due.is("smallestDistance()", x.smallestDistance(), 0);
        due.is("reachableCount()", x.reachableCount(), 1);
        due.is("applicableCount()", x.applicableCount(), 0);
        due.is("simplify()", x.simplify(), 0);
        due.is("apply(0, 0)", x.apply(0, 0), -4);
        due.is("apply(0, 1)", x.apply(0, 1), -3);
        x.load(83L);
        due.is("current() of another new object", new RegexSimplifier().current(), 1);
    }

    private static void p01NoSteps() {
        due.sentence("Promise 1", "there are no steps");
        RegexSimplifier x = new RegexSimplifier();
        due.is("stepCount()", x.stepCount(), 0);
        due.is("stepRule(0)", x.stepRule(0), -5);
        due.is("stepPosition(0)", x.stepPosition(0), -5);
        due.is("undo(0)", x.undo(0), 0);
        due.is("undo(1)", x.undo(1), -5);
        due.is("current()", x.current(), 1);
        x.load(883L);
        x.apply(5, 0);
        due.is("stepCount() of another new object", new RegexSimplifier().stepCount(), 0);
    }

    private static void p02NumberOfDigits() {
        due.sentence("Promise 2", "Returns its size, 1 to 18");
        RegexSimplifier x = new RegexSimplifier();
        long stars = 0;
        for (int size = 1; size <= 18; size++) {
            for (int leaf = 1; leaf <= 5; leaf++) {
                due.is("size(" + (stars * 10 + leaf) + ")", x.size(stars * 10 + leaf), size);
            }
            stars = stars * 10 + 8;
        }
        due.is("size(634)", x.size(634L), 3);
        due.is("size(66666666333333333)", x.size(66666666333333333L), 17);
        due.is("size(616161616161616181)", x.size(616161616161616181L), 18);
    }

    private static void p02Malformed() {
        due.sentence("Promise 2", "Returns its size, 1 to 18; MALFORMED.");
        for (long number : Expressions.MALFORMED) {
            due.is("size(" + number + ")", new RegexSimplifier().size(number), -1);
        }
    }

    private static void starHeight(long regex, int want) {
        due.is("starHeight(" + regex + ")", new RegexSimplifier().starHeight(regex), want);
    }

    private static void p03ZeroWithoutAStar() {
        due.sentence("Promise 3", "0 without a star");
        for (long leaf = 1; leaf <= 5; leaf++) {
            starHeight(leaf, 0);
        }
        starHeight(634L, 0);
        starHeight(734L, 0);
        starHeight(NINE_AS, 0);
        starHeight(66666666333333333L, 0);
    }

    private static void p03GreatestNumberOnAPath() {
        due.sentence("Promise 3", "otherwise the greatest number of stars on a path from the root to a leaf");
        starHeight(81L, 1);
        starHeight(83L, 1);
        starHeight(68384L, 1);
        starHeight(78384L, 1);
        starHeight(68834L, 2);
        starHeight(63884L, 2);
        starHeight(88634L, 2);
        starHeight(8683884L, 3);
        starHeight(8688384L, 3);
        starHeight(878384L, 2);
        starHeight(88888888888888883L, 16);
        starHeight(888888888888888883L, 17);
    }

    private static void p03Malformed() {
        due.sentence("Promise 3", "Returns its star height; MALFORMED.");
        for (long number : Expressions.MALFORMED) {
            starHeight(number, -1);
        }
    }

    private static void emptyWord(long regex, int want) {
        due.is("matchesEmptyWord(" + regex + ")", new RegexSimplifier().matchesEmptyWord(regex), want);
    }

    private static void p04OneIfItDoesZeroIfNot() {
        due.sentence("Promise 4", "Returns 1 if it does, 0 if it does not");
        long[] matching = {2L, 81L, 82L, 83L, 612L, 621L, 623L, 632L, 622L, 722L, 7281L, 78384L, 7283L, 7832L, 8713L,
            888888888888888881L, 628888888888888883L, 72727272727272722L};
        for (long regex : matching) {
            emptyWord(regex, 1);
        }
        long[] notMatching = {1L, 3L, 4L, 5L, 611L, 613L, 634L, 711L, 712L, 721L, 723L, 732L, 733L, 7183L, 7831L, 7383L,
            7833L, 72727272727272723L, 72727272727272721L, 73727272727272722L};
        for (long regex : notMatching) {
            emptyWord(regex, 0);
        }
    }

    private static void p04Malformed() {
        due.sentence("Promise 4", "Returns 1 if it does, 0 if it does not; MALFORMED.");
        for (long number : Expressions.MALFORMED) {
            emptyWord(number, -1);
        }
    }

    private static void words(long regex, int length, int want) {
        due.is("countWords(" + regex + ", " + length + ")", new RegexSimplifier().countWords(regex, length), want);
    }

    private static void p05DistinctWords() {
        due.sentence("Promise 5", "Counts the distinct words of a given length that an expression matches.");
        words(622L, 0, 1);
        words(633L, 1, 1);
        words(7623623L, 1, 1);
        words(7623623L, 2, 1);
        words(6734734L, 2, 1);
        words(8633L, 6, 1);
        words(78383L, 6, 1);
        words(88888888888888883L, 6, 1);
        words(686348634L, 6, 64);
        words(786348634L, 6, 64);
    }

    private static void p05LengthFrom0To6() {
        due.sentence("Promise 5", "`length`: the length of the words, 0 to 6");
        words(1L, 0, 0);
        words(1L, 6, 0);
        words(2L, 0, 1);
        words(2L, 6, 0);
        words(3L, 0, 0);
        words(3L, 1, 1);
        words(3L, 2, 0);
        words(866345L, 0, 1);
        words(866345L, 1, 3);
        words(866345L, 5, 243);
        words(866345L, 6, 729);
        words(73737373733L, 5, 0);
        words(73737373733L, 6, 1);
        words(7373737373733L, 6, 0);
        for (int length = 0; length <= 6; length++) {
            words(NINE_AS, length, 0);
        }
    }

    private static void p05Malformed() {
        due.sentence("Promise 5", "Returns the number of matched words; MALFORMED");
        int[] lengths = {0, 6, -1, 7};
        for (long number : Expressions.MALFORMED) {
            for (int length : lengths) {
                words(number, length, -1);
            }
        }
    }

    private static void p05LengthIsNot0To6() {
        due.sentence("Promise 5", "OUT_OF_RANGE if length is not 0 to 6");
        long[] expressions = {1L, 2L, 3L, 866345L, NINE_AS, 888888888888888883L};
        for (long regex : expressions) {
            words(regex, -1, -5);
            words(regex, 7, -5);
            words(regex, 8, -5);
            words(regex, 9, -5);
            for (int length : FAR_OUTSIDE) {
                words(regex, length, -5);
            }
        }
    }

    private static void length(long first, long second, int want) {
        due.is("differenceLength(" + first + ", " + second + ")", new RegexSimplifier().differenceLength(first, second), want);
    }

    private static void p06ExactlyOneOfTwo() {
        due.sentence("Promise 6", "Returns the length of the shortest word that exactly one of two expressions matches.");
        length(3L, 1L, 1);
        length(1L, 3L, 1);
        length(83L, 3L, 0);
        length(3L, 83L, 0);
        length(623L, 624L, 1);
        length(63734L, 63744L, 2);
        length(63744L, 63734L, 2);
        length(8634L, 68384L, 2);
        length(68384L, 8634L, 2);
    }

    private static void p06ShortestWord() {
        due.sentence("Promise 6", "Returns the length of a shortest such word");
        length(1L, 2L, 0);
        length(83L, 7383L, 0);
        length(2L, 83L, 1);
        length(64733L, 1L, 1);
        length(67334L, 1L, 1);
        length(8733L, 873733L, 2);
        length(NINE_AS, 1L, 9);
        length(NINE_AS, 73737373737373734L, 9);
        // Longer than either expression has symbols.
        length(637368733737733733L, 76873387377733333L, 16);
        length(87364874777373334L, 876736347838838883L, 13);
        length(868647655748848644L, 87658775477457454L, 13);
    }

    private static void p06EitherIsMalformed() {
        due.sentence("Promise 6", "MALFORMED if either parameter is malformed");
        for (long number : Expressions.MALFORMED) {
            length(number, 3L, -1);
            length(3L, number, -1);
            length(number, number, -1);
            length(number, 33L, -1);
        }
    }

    private static void p06NoneIfEquivalent() {
        due.sentence("Promise 6", "NONE if the expressions are equivalent");
        length(1L, 1L, -9);
        length(3L, 3L, -9);
        length(1L, 713L, -9);
        length(2L, 81L, -9);
        length(8634L, 878384L, -9);
        length(634L, 643L, -9);
        length(888888888888888883L, 83L, -9);
        length(616161616161616181L, 2L, -9);
        length(NINE_AS, 77777777333333333L, -9);
    }

    /** With the parameters in both orders. */
    private static void word(long first, long second, String word) {
        RegexSimplifier x = new RegexSimplifier();
        for (int index = 0; index < word.length(); index++) {
            int want = word.charAt(index) - 'a';
            due.is("differenceSymbol(" + first + ", " + second + ", " + index + ")", x.differenceSymbol(first, second, index), want);
            due.is("differenceSymbol(" + second + ", " + first + ", " + index + ")", x.differenceSymbol(second, first, index), want);
        }
    }

    private static void symbol(long first, long second, int index, int want) {
        String call = "differenceSymbol(" + first + ", " + second + ", " + index + ")";
        due.is(call, new RegexSimplifier().differenceSymbol(first, second, index), want);
    }

    private static void p07FirstInLexicographicOrder() {
        due.sentence("Promise 7",
            "of all shortest words that exactly one of two expressions matches, the first one in lexicographic order (0 before 1 before 2)");
        word(634L, 1L, "a");
        word(654L, 1L, "b");
        word(653L, 1L, "a");
        word(66543L, 3L, "b");
        word(8634L, 68384L, "ab");
        word(743L, 734L, "ab");
        word(73645L, 1L, "ab");
        word(7654634L, 1L, "ba");
        // A shorter word comes before one that begins with a lower symbol.
        word(64733L, 1L, "b");
        word(65734L, 1L, "c");
        word(64733L, 6473733L, "aa");
        // The first word may be matched by the first or by the second expression.
        word(3L, 4L, "a");
        word(734L, 733L, "aa");
        word(868647655748848644L, 87658775477457454L, "cbbcbccbbcbcb");
        word(87364874777373334L, 876736347838838883L, "abaaaabbaaaab");
    }

    private static void p07IndexFrom0() {
        due.sentence("Promise 7", "`index`: the index of a symbol in that word, from 0");
        word(73745L, 1L, "abc");
        word(75743L, 1L, "cba");
        word(75757575757575754L, 1L, "ccccccccb");
        word(74757575757575755L, 1L, "bcccccccc");
        word(637368733737733733L, 76873387377733333L, "aaaaaaaaaaaaaaaa");
    }

    private static void p07SymbolFrom0To2() {
        due.sentence("Promise 7", "Returns the symbol, 0 to 2");
        symbol(3L, 1L, 0, 0);
        symbol(4L, 1L, 0, 1);
        symbol(5L, 1L, 0, 2);
        for (int index = 0; index < 9; index++) {
            symbol(NINE_AS, 1L, index, 0);
            symbol(74747474747474744L, 1L, index, 1);
            symbol(75757575757575755L, 1L, index, 2);
            symbol(73747573747573745L, 1L, index, new int[] {0, 1, 2, 0, 1, 2, 0, 1, 2}[index]);
        }
    }

    private static void p07EitherIsMalformed() {
        due.sentence("Promise 7", "MALFORMED if either expression is malformed");
        for (long number : Expressions.MALFORMED) {
            symbol(number, 3L, 0, -1);
            symbol(3L, number, 0, -1);
            symbol(number, number, 0, -1);
            symbol(number, 3L, -1, -1);
            symbol(3L, number, 1, -1);
        }
    }

    private static void p07NoneWhateverIndexIs() {
        due.sentence("Promise 7", "NONE if the expressions are equivalent, whatever index is");
        long[][] pairs = {{1L, 1L}, {3L, 3L}, {2L, 81L}, {8634L, 878384L}, {888888888888888883L, 83L}};
        for (long[] pair : pairs) {
            symbol(pair[0], pair[1], -1, -9);
            symbol(pair[0], pair[1], 0, -9);
            symbol(pair[0], pair[1], 1, -9);
            for (int index : FAR_OUTSIDE) {
                symbol(pair[0], pair[1], index, -9);
            }
        }
    }

    private static void p07NoSuchIndex() {
        due.sentence("Promise 7", "OUT_OF_RANGE if the word has no such index");
        long[][] pairs = {{1L, 2L, 0}, {83L, 7383L, 0}, {3L, 4L, 1}, {8634L, 68384L, 2}, {NINE_AS, 1L, 9},
            {637368733737733733L, 76873387377733333L, 16}};
        for (long[] pair : pairs) {
            int length = (int) pair[2];
            symbol(pair[0], pair[1], -1, -5);
            symbol(pair[0], pair[1], length, -5);
            symbol(pair[0], pair[1], length + 1, -5);
            for (int index : FAR_OUTSIDE) {
                symbol(pair[0], pair[1], index, -5);
            }
        }
    }
}
