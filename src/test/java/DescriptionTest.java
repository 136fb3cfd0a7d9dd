import java.util.ArrayList;
import java.util.List;
import java.util.regex.Pattern;

/** The ordinary cases of the document's "Description", a method for each sentence; the rules are in RulesTest. */
public final class DescriptionTest {
    private static final Due due = new Due("DescriptionTest");

    public static void main(String[] args) {
        prefixNotation();
        symbols();
        unionAndConcatenation();
        exampleOfTheEncoding();
        sizeIsNumberOfDigits();
        usualSense();
        constants();
        encodedExpressions();
        due.end();
    }

    private static void words(long regex, int length, int want) {
        due.is("countWords(" + regex + ", " + length + ")", new RegexSimplifier().countWords(regex, length), want);
    }

    private static void difference(long first, long second, int want) {
        String call = "differenceLength(" + first + ", " + second + ")";
        due.is(call, new RegexSimplifier().differenceLength(first, second), want);
    }

    /** A word is matched if the expression is equivalent to its union with the word. */
    private static void matches(long regex, String word, boolean want) {
        StringBuilder code = new StringBuilder(word.isEmpty() ? "2" : "7".repeat(word.length() - 1));
        for (char symbol : word.toCharArray()) {
            code.append(symbol - 'a' + 3);
        }
        long union = Long.parseLong("6" + regex + code);
        int length = new RegexSimplifier().differenceLength(union, regex);
        due.is(regex + " matches \"" + word + "\": differenceLength(" + union + ", " + regex + ")", length,
            want ? -9 : word.length());
    }

    private static void prefixNotation() {
        due.sentence("Description",
            "A regular expression over the alphabet {a, b, c} is written as a decimal number in prefix (Polish) notation");
        Taker.allTake(due, 634L, 83L, 763483L, 8634L, 68384L);
        // Between its operands or behind them an operator is in no place.
        Taker.allRefuse(due, 364L, 346L, 38L, 3847L, 36483L, 3484786L, 3468L);
        for (int length = 0, all = 1; length <= 6; length++, all *= 3) {
            words(866345L, length, all);
        }
        // The left operand comes first.
        matches(734L, "ab", true);
        matches(734L, "ba", false);
        matches(76345L, "ac", true);
        matches(76345L, "ca", false);
    }

    private static void symbols() {
        due.sentence("Description", "3 is the symbol a, 4 is the symbol b, 5 is the symbol c.");
        String[] all = {"", "a", "b", "c", "aa", "ab", "bc", "cc"};
        for (String word : all) {
            matches(3L, word, word.equals("a"));
            matches(4L, word, word.equals("b"));
            matches(5L, word, word.equals("c"));
        }
        for (long symbol = 3; symbol <= 5; symbol++) {
            for (int length = 0; length <= 6; length++) {
                words(symbol, length, length == 1 ? 1 : 0);
            }
            due.is("differenceSymbol(" + symbol + ", 1, 0)", new RegexSimplifier().differenceSymbol(symbol, 1L, 0), symbol - 3);
        }
    }

    private static void unionAndConcatenation() {
        due.sentence("Description", "6 is a union and 7 is a concatenation");
        String[] all = {"", "a", "b", "c", "aa", "ab", "ba", "bb", "abc", "aab"};
        for (String word : all) {
            matches(634L, word, word.equals("a") || word.equals("b"));
            matches(734L, word, word.equals("ab"));
            matches(76342L, word, word.equals("a") || word.equals("b"));
            matches(67345L, word, word.equals("ab") || word.equals("c"));
            matches(73745L, word, word.equals("abc"));
            matches(7623624L, word, word.isEmpty() || word.equals("a") || word.equals("b") || word.equals("ab"));
        }
    }

    private static void exampleOfTheEncoding() {
        due.sentence("Description", "Example: 8634 is the expression (a|b)*.");
        due.is("size(8634)", new RegexSimplifier().size(8634L), 4);
        for (int length = 0; length <= 6; length++) {
            words(8634L, length, 1 << length);
        }
        String[] matched = {"", "a", "b", "ab", "ba", "abba", "bbbbb"};
        for (String word : matched) {
            matches(8634L, word, true);
        }
        String[] notMatched = {"c", "ac", "ca", "abc"};
        for (String word : notMatched) {
            matches(8634L, word, false);
        }
        difference(8634L, 878384L, -9);
        difference(8634L, 866345L, 1);
        difference(8634L, 634L, 0);
    }

    private static void sizeIsNumberOfDigits() {
        due.sentence("Description", "The size of an expression is its number of digits.");
        Expressions some = new Expressions(11);
        for (int round = 0; round < 180; round++) {
            String text = some.ofSize(1 + round % 18, "12345");
            long regex = Long.parseLong(text);
            RegexSimplifier x = new RegexSimplifier();
            due.is("size(" + text + ")", x.size(regex), text.length());
            due.is("load(" + text + ")", x.load(regex), text.length());
        }
        RegexSimplifier x = new RegexSimplifier();
        x.load(6734735L);
        due.is("apply(10, 0) of 6734735", x.apply(10, 0), 5);
        due.is("current() behind it", x.current(), 73645L);
    }

    /** What java.util.regex matches, for all small expressions and some larger ones. */
    private static void usualSense() {
        due.sentence("Description", "An expression matches words in the usual sense of regular expressions.");
        List<String> texts = new ArrayList<>();
        Expressions.allUpTo(5, "12345").forEach(texts::addAll);
        Expressions some = new Expressions(12);
        for (int round = 0; round < 1000; round++) {
            texts.add(some.ofSize(6 + some.below(6), round % 2 == 0 ? "12345" : "33345"));
        }
        List<List<String>> words = allWords(4);
        for (String text : texts) {
            Pattern pattern = Pattern.compile(pattern(text));
            for (int length = 0; length < words.size(); length++) {
                long want = words.get(length).stream().filter(word -> pattern.matcher(word).matches()).count();
                words(Long.parseLong(text), length, (int) want);
            }
        }
    }

    private static String pattern(String text) {
        switch (text.charAt(0)) {
            case '1':
                return "(?!)";
            case '2':
                return "(?:)";
            case '6':
                return "(?:" + pattern(Oracle.left(text)) + "|" + pattern(Oracle.right(text)) + ")";
            case '7':
                return pattern(Oracle.left(text)) + pattern(Oracle.right(text));
            case '8':
                return "(?:" + pattern(text.substring(1)) + ")*";
            default:
                return String.valueOf((char) (text.charAt(0) - '3' + 'a'));
        }
    }

    private static List<List<String>> allWords(int longest) {
        List<List<String>> words = new ArrayList<>();
        words.add(List.of(""));
        for (int length = 1; length <= longest; length++) {
            List<String> longer = new ArrayList<>();
            for (String word : words.get(length - 1)) {
                for (char symbol = 'a'; symbol <= 'c'; symbol++) {
                    longer.add(word + symbol);
                }
            }
            words.add(longer);
        }
        return words;
    }

    private static void constants() {
        RegexSimplifier x = new RegexSimplifier();
        due.sentence("Description", "`MALFORMED = -1`: The parameter is not the encoding of a regular expression.");
        due.is("MALFORMED", RegexSimplifier.MALFORMED, -1);
        Taker.allRefuse(due, 0L, -3L, 33L, 63L, 9L, 8888888888888888883L);
        due.sentence("Description", "`NO_SUCH_RULE = -2`: The rule number is not 0 to 15.");
        due.is("NO_SUCH_RULE", RegexSimplifier.NO_SUCH_RULE, -2);
        for (int rule = -2; rule <= 17; rule++) {
            boolean known = rule >= 0 && rule <= 15;
            due.is("isApplicable(3, " + rule + ", 0)", x.isApplicable(3L, rule, 0), known ? 0 : -2);
            due.is("rewrite(3, " + rule + ", 0)", x.rewrite(3L, rule, 0), known ? -4 : -2);
            due.is("apply(" + rule + ", 0)", x.apply(rule, 0), known ? -4 : -2);
        }
        due.sentence("Description", "`NO_SUCH_POSITION = -3`: The position is not that of a node of the expression.");
        due.is("NO_SUCH_POSITION", RegexSimplifier.NO_SUCH_POSITION, -3);
        x.load(634L);
        for (int position = -2; position <= 4; position++) {
            boolean known = position >= 0 && position <= 2;
            due.is("isApplicable(634, 0, " + position + ")", x.isApplicable(634L, 0, position), known ? 0 : -3);
            due.is("rewrite(634, 0, " + position + ")", x.rewrite(634L, 0, position), known ? -4 : -3);
            due.is("apply(0, " + position + ") of 634", x.apply(0, position), known ? -4 : -3);
        }
        due.sentence("Description", "`NOT_APPLICABLE = -4`: The rule is not applicable at the position.");
        due.is("NOT_APPLICABLE", RegexSimplifier.NOT_APPLICABLE, -4);
        due.is("rewrite(76134, 1, 0)", x.rewrite(76134L, 1, 0), -4);
        due.is("rewrite(76134, 0, 0)", x.rewrite(76134L, 0, 0), -4);
        due.is("rewrite(76134, 0, 1)", x.rewrite(76134L, 0, 1), 734);
        x.load(76134L);
        due.is("apply(0, 0) of 76134", x.apply(0, 0), -4);
        due.is("apply(0, 1) of 76134", x.apply(0, 1), 3);
        furtherConstants();
    }

    private static void furtherConstants() {
        RegexSimplifier x = new RegexSimplifier();
        due.sentence("Description", "`OUT_OF_RANGE = -5`: A length, an index or a count is out of range.");
        due.is("OUT_OF_RANGE", RegexSimplifier.OUT_OF_RANGE, -5);
        due.is("countWords(3, 7)", x.countWords(3L, 7), -5);
        due.is("differenceSymbol(3, 4, 1)", x.differenceSymbol(3L, 4L, 1), -5);
        due.is("stepRule(0)", x.stepRule(0), -5);
        due.is("stepPosition(0)", x.stepPosition(0), -5);
        due.is("undo(1)", x.undo(1), -5);
        due.sentence("Description", "`LIMIT_EXCEEDED = -6`: The search met more than 60 expressions.");
        due.is("LIMIT_EXCEEDED", RegexSimplifier.LIMIT_EXCEEDED, -6);
        x.load(8681868811L);
        due.is("smallest() of 8681868811", x.smallest(), -6);
        due.is("smallestDistance() of 8681868811", x.smallestDistance(), -6);
        due.is("reachableCount() of 8681868811", x.reachableCount(), -6);
        x.load(6688818811L);
        due.is("reachableCount() of 6688818811", x.reachableCount(), 60);
        due.sentence("Description", "`NONE = -9`: There is no such thing; not an error.");
        due.is("NONE", RegexSimplifier.NONE, -9);
        due.is("differenceLength(3, 3)", x.differenceLength(3L, 3L), -9);
        due.is("differenceSymbol(3, 3, 0)", x.differenceSymbol(3L, 3L, 0), -9);
        due.is("firstPosition(3)", x.firstPosition(3L), -9);
        due.is("firstRule(3)", x.firstRule(3L), -9);
    }

    /** Of every parameter that is one. */
    private static void encodedExpressions() {
        Expressions some = new Expressions(13);
        for (Taker taker : Taker.ALL) {
            due.sentence(taker.heading(), "`" + taker.parameter() + "`: an encoded expression");
            for (int size = 1; size <= 18; size++) {
                long regex = Long.parseLong(some.ofSize(size, "12345"));
                long answer = taker.made().on(new RegexSimplifier(), regex);
                due.holds(taker.callOf(regex) + " is not MALFORMED but " + answer, answer != -1);
            }
            for (long number : Expressions.MALFORMED) {
                due.is(taker.callOf(number), taker.made().on(new RegexSimplifier(), number), -1);
            }
        }
    }
}
