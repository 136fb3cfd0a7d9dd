/** Promises 2 to 7: what is told of expressions that are passed in. */
public final class ExpressionsTest {
    private static final Due due = new Due("ExpressionsTest");

    /** aaaaaaaaa, with the most symbols that fit. */
    private static final long NINE_AS = 73737373737373733L;

    public static void main(String[] args) {
        sizes();
        starHeights();
        emptyWords();
        countedWords();
        differenceLengths();
        differenceSymbols();
        due.end();
    }

    private static void size(long regex, int want) {
        due.is("size(" + regex + ")", new RegexSimplifier().size(regex), want);
    }

    private static void sizes() {
        due.sentence("Promise 2", "Returns the number of digits of an expression.");
        for (long leaf = 1; leaf <= 5; leaf++) {
            size(leaf, 1);
        }
        size(83L, 2);
        size(634L, 3);
        size(734L, 3);
        size(8634L, 4);
        size(66345L, 5);
        size(63645L, 5);
        size(NINE_AS, 17);
        size(888888888888888883L, 18);
        size(888888888888888881L, 18);
        size(866666666633333333L, -1);
        size(866666666333333333L, 18);
        size(66666666333333333L, 17);
        size(666666663333333334L, -1);
        size(111111111111111111L, -1);
    }

    private static void starHeight(long regex, int want) {
        due.is("starHeight(" + regex + ")", new RegexSimplifier().starHeight(regex), want);
    }

    private static void starHeights() {
        due.sentence("Promise 3", "Returns how deeply stars are nested:");
        starHeight(3L, 0);
        starHeight(66345L, 0);
        starHeight(81L, 1);
        starHeight(68384L, 1);
        starHeight(883L, 2);
        starHeight(688388884L, 4);
        starHeight(67888388485L, 3);
        starHeight(78638848883L, 3);
        starHeight(8687838485L, 3);
        starHeight(888888888888888883L, 17);
    }

    private static void emptyWord(long regex, int want) {
        due.is("matchesEmptyWord(" + regex + ")", new RegexSimplifier().matchesEmptyWord(regex), want);
    }

    private static void emptyWords() {
        due.sentence("Promise 4", "Tells whether an expression matches the empty word.");
        emptyWord(1L, 0);
        emptyWord(2L, 1);
        emptyWord(3L, 0);
        emptyWord(4L, 0);
        emptyWord(5L, 0);
        emptyWord(81L, 1);
        emptyWord(83L, 1);
        emptyWord(632L, 1);
        emptyWord(623L, 1);
        emptyWord(634L, 0);
        emptyWord(722L, 1);
        emptyWord(723L, 0);
        emptyWord(732L, 0);
        emptyWord(721L, 0);
        emptyWord(712L, 0);
        emptyWord(78384L, 1);
        emptyWord(7623624L, 1);
        emptyWord(762385L, 1);
        emptyWord(888888888888888881L, 1);
    }

    private static void counts(long regex, int... wants) {
        RegexSimplifier x = new RegexSimplifier();
        for (int length = 0; length < wants.length; length++) {
            due.is("countWords(" + regex + ", " + length + ")", x.countWords(regex, length), wants[length]);
        }
    }

    private static void countedWords() {
        due.sentence("Promise 5", "Returns the number of matched words");
        counts(1L, 0, 0, 0, 0, 0, 0, 0);
        counts(2L, 1, 0, 0, 0, 0, 0, 0);
        counts(5L, 0, 1, 0, 0, 0, 0, 0);
        counts(81L, 1, 0, 0, 0, 0, 0, 0);
        counts(83L, 1, 1, 1, 1, 1, 1, 1);
        counts(8634L, 1, 2, 4, 8, 16, 32, 64);
        counts(866345L, 1, 3, 9, 27, 81, 243, 729);
        counts(633L, 0, 1, 0, 0, 0, 0, 0);
        counts(78383L, 1, 1, 1, 1, 1, 1, 1);
        counts(7623623L, 1, 1, 1, 0, 0, 0, 0);
        counts(8734L, 1, 0, 1, 0, 1, 0, 1);
        counts(873733L, 1, 0, 0, 1, 0, 0, 1);
        counts(78384L, 1, 2, 3, 4, 5, 6, 7);
        counts(731L, 0, 0, 0, 0, 0, 0, 0);
        counts(8731L, 1, 0, 0, 0, 0, 0, 0);
        counts(67135L, 0, 1, 0, 0, 0, 0, 0);
        counts(67315L, 0, 1, 0, 0, 0, 0, 0);
        counts(73737373733L, 0, 0, 0, 0, 0, 0, 1);
        counts(NINE_AS, 0, 0, 0, 0, 0, 0, 0);
        counts(7863473634L, 0, 0, 2, 4, 8, 16, 32);
    }

    private static void difference(long first, long second, String word) {
        RegexSimplifier x = new RegexSimplifier();
        for (int turn = 0; turn < 2; turn++) {
            long one = turn == 0 ? first : second;
            long two = turn == 0 ? second : first;
            String of = "(" + one + ", " + two + ")";
            due.is("differenceLength" + of, x.differenceLength(one, two), word == null ? -9 : word.length());
            for (int index = 0; word != null && index < word.length(); index++) {
                due.is("differenceSymbol" + of + " " + index, x.differenceSymbol(one, two, index), word.charAt(index) - 'a');
            }
            int[] outside = {-1, word == null ? 0 : word.length(), Integer.MIN_VALUE, Integer.MAX_VALUE};
            for (int index : outside) {
                due.is("differenceSymbol" + of + " " + index, x.differenceSymbol(one, two, index), word == null ? -9 : -5);
            }
        }
    }

    private static void differenceLengths() {
        due.sentence("Promise 6", "Returns the length of the shortest word that exactly one of two expressions matches.");
        difference(1L, 1L, null);
        difference(1L, 2L, "");
        difference(2L, 83L, "a");
        difference(883L, 83L, null);
        difference(8634L, 878384L, null);
        difference(8634L, 8643L, null);
        difference(81L, 2L, null);
        difference(731L, 1L, null);
        difference(8731L, 2L, null);
        difference(66345L, 63645L, null);
        difference(77345L, 73745L, null);
        difference(627383L, 83L, null);
        difference(738743L, 787343L, null);
        difference(888888888888888883L, 83L, null);
        difference(888888888888888881L, 2L, null);
    }

    private static void differenceSymbols() {
        due.sentence("Promise 7", "Returns one symbol of the difference word:");
        difference(3L, 4L, "a");
        difference(4L, 5L, "b");
        difference(3L, 1L, "a");
        difference(5L, 1L, "c");
        difference(634L, 635L, "b");
        difference(645L, 1L, "b");
        difference(8634L, 68384L, "ab");
        difference(8645L, 68485L, "bc");
        difference(8653L, 68583L, "ac");
        difference(83L, 8733L, "a");
        difference(8733L, 873733L, "aa");
        difference(7863473634L, 7863474634L, "aa");
        difference(777734543L, 777734544L, "abcba");
        difference(777754533L, 777754534L, "cbcaa");
        difference(NINE_AS, 1L, "aaaaaaaaa");
        difference(NINE_AS, NINE_AS + 1, "aaaaaaaaa");
        difference(NINE_AS + 2, NINE_AS + 1, "aaaaaaaab");
        difference(800000000000000000L + NINE_AS, 2L, "aaaaaaaaa");
        difference(800000000000000000L + NINE_AS, 8737373737373733L, "aaaaaaaa");
        difference(75757575757575755L, 75757575757575754L, "ccccccccb");
    }
}
