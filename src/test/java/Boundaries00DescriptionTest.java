/** The boundary cases of the document's "What it is" and "Description", a method for each sentence. */
public final class Boundaries00DescriptionTest {
    private static final Due due = new Due("Boundaries00DescriptionTest");

    public static void main(String[] args) {
        atMost512Calls();
        from1To18Digits();
        emptySetAndEmptyWord();
        theseFiveAreLeaves();
        followedByLeftAndRightOperand();
        starIsFollowedByItsOperand();
        numberThatIs0();
        numberThatIsNegative();
        notExactlyOneSuchExpression();
        moreThan18Digits();
        rootHasPosition0();
        symbolsAreNumbered();
        exactlyTheSameWords();
        lettersStandForAnyExpressions();
        letterThatOccursTwice();
        firstLeftSideThatMatchesIsUsed();
        subexpressionWhoseRootIsAtThatPosition();
        replacesThatSubexpression();
        neverRegroupedOrReordered();
        keepsTheWordsAndMakesItSmaller();
        oneCurrentExpressionAndItsSteps();
        othersLeaveTheStateAlone();
        errorsAreNegativeConstants();
        firstErrorThatApplies();
        due.end();
    }

    /** Each method as the last call that is promised. */
    private static void atMost512Calls() {
        due.sentence("What it is", "An object is used for at most 512 calls after it has been made");
        due.is("512th: size", after511Calls().size(888888888888888883L), 18);
        due.is("512th: starHeight", after511Calls().starHeight(883L), 2);
        due.is("512th: matchesEmptyWord", after511Calls().matchesEmptyWord(83L), 1);
        due.is("512th: countWords", after511Calls().countWords(866345L, 6), 729);
        due.is("512th: differenceLength", after511Calls().differenceLength(8634L, 68384L), 2);
        due.is("512th: differenceSymbol", after511Calls().differenceSymbol(8634L, 68384L, 1), 1);
        due.is("512th: isApplicable", after511Calls().isApplicable(63634L, 15, 0), 1);
        due.is("512th: rewrite", after511Calls().rewrite(868384L, 13, 0), 86384L);
        due.is("512th: firstPosition", after511Calls().firstPosition(7381L), 2);
        due.is("512th: firstRule", after511Calls().firstRule(7381L), 3);
        due.is("512th: load", after511Calls().load(888888888888888883L), 18);
        due.is("512th: load of a malformed number", after511Calls().load(33L), -1);
        due.is("512th: current", after511Calls().current(), 6283L);
        due.is("512th: apply", after511Calls().apply(8, 0), 2);
        due.is("512th: simplify", after511Calls().simplify(), 1);
        due.is("512th: undo", after511Calls().undo(2), 0);
        due.is("512th: stepCount", after511Calls().stepCount(), 2);
        due.is("512th: stepRule", after511Calls().stepRule(1), 15);
        due.is("512th: stepPosition", after511Calls().stepPosition(0), 3);
        due.is("512th: applicableCount", after511Calls().applicableCount(), 1);
        due.is("512th: smallest", after511Calls().smallest(), 83L);
        due.is("512th: smallestDistance", after511Calls().smallestDistance(), 1);
        due.is("512th: reachableCount", after511Calls().reachableCount(), 2);
    }

    /** The current expression is 6283, made of 6268283 by rule 3 at 3 and rule 15 at 0. */
    private static RegexSimplifier after511Calls() {
        RegexSimplifier x = new RegexSimplifier();
        for (int round = 0; round < 508 / 4; round++) {
            x.load(888888888888888881L);
            x.simplify();
            x.undo(round % 18);
            x.smallest();
        }
        x.load(6268283L);
        x.apply(3, 3);
        x.apply(15, 0);
        return x;
    }

    private static void from1To18Digits() {
        due.sentence("Description", "one digit for each node of its syntax tree, 1 to 18 digits");
        Taker.allTake(due, 3L, 83L, 634L, 66666666333333333L, 88888888888888883L);
        // The least and the greatest of 18 digits stand at the ends of this row.
        Taker.allTake(due, 616161616161616181L, 866666666333333333L, 737373737373737383L, 888888888888888885L);
    }

    private static void emptySetAndEmptyWord() {
        due.sentence("Description", "1 is the empty set (it matches no word), 2 is the empty word");
        RegexSimplifier x = new RegexSimplifier();
        for (int length = 0; length <= 6; length++) {
            due.is("countWords(1, " + length + ")", x.countWords(1L, length), 0);
            due.is("countWords(2, " + length + ")", x.countWords(2L, length), length == 0 ? 1 : 0);
        }
        due.is("matchesEmptyWord(1)", x.matchesEmptyWord(1L), 0);
        due.is("matchesEmptyWord(2)", x.matchesEmptyWord(2L), 1);
        due.is("differenceLength(1, 2)", x.differenceLength(1L, 2L), 0);
        due.is("differenceLength(718888888888888883, 1)", x.differenceLength(718888888888888883L, 1L), -9);
        due.is("differenceLength(732, 3)", x.differenceLength(732L, 3L), -9);
    }

    private static void theseFiveAreLeaves() {
        due.sentence("Description", "These five are leaves.");
        Taker.allTake(due, 1L, 2L, 3L, 4L, 5L, 81L, 82L, 83L, 84L, 85L, 612L, 734L, 651L);
        Taker.allRefuse(due, 6L, 7L, 8L, 9L);
        Taker.allRefuse(due, 11L, 12L, 23L, 34L, 45L, 51L, 13L, 25L);
    }

    private static void followedByLeftAndRightOperand() {
        due.sentence("Description", "each is followed by its left operand and then its right operand");
        Taker.allTake(due, 634L, 734L, 66345L, 63645L, 77345L, 73745L, 68384L, 78384L);
        Taker.allRefuse(due, 6L, 7L, 63L, 73L, 663L, 773L, 6634L, 7734L, 6364L, 683L, 783L);
        Taker.allRefuse(due, 6345L, 7345L, 663451L, 636451L, 683841L);
    }

    private static void starIsFollowedByItsOperand() {
        due.sentence("Description", "8 is a Kleene star and is followed by its operand");
        Taker.allTake(due, 83L, 883L, 8634L, 6834L, 6384L);
        Taker.allRefuse(due, 8L, 88L, 638L, 834L, 8833L, 86345L, 38L);
    }

    private static void numberThatIs0() {
        due.sentence("Description", "A number that is 0 or negative");
        Taker.allRefuse(due, 0L);
    }

    private static void numberThatIsNegative() {
        due.sentence("Description", "or negative");
        Taker.allRefuse(due, -1L, -2L, -3L, -5L, -9L, -83L, -634L, -8634L, -888888888888888883L);
        Taker.allRefuse(due, -616161616161616181L, -1000000000000000000L, Integer.MIN_VALUE, Long.MIN_VALUE, Long.MIN_VALUE + 1);
        // 83 is what these are without their upper bits, without the sign bit and modulo 10 to the 18th.
        Taker.allRefuse(due, -4294967213L, -9223372036854775725L, -999999999999999917L);
    }

    private static void notExactlyOneSuchExpression() {
        due.sentence("Description", "that is not exactly one such expression");
        Taker.allRefuse(due, 66L, 67L, 76L, 86L, 87L, 68L, 6863L, 666666666333333333L, 888888888888888888L);
        Taker.allRefuse(due, 33L, 366L, 836L, 6343L, 8383L, 634634L, 633333333333333333L, 888888888888888833L);
        Taker.allRefuse(due, 9L, 93L, 934L, 694L, 649L, 89L, 893L, 86349L, 9634L, 888888888888888889L);
        Taker.allRefuse(due, 10L, 30L, 80L, 803L, 604L, 640L, 6034L, 6304L, 6340L, 8630L, 888888888888888880L);
        Taker.allRefuse(due, 100000000000000000L, 999999999999999999L, 600000000000000034L, 4294967379L);
    }

    private static void moreThan18Digits() {
        due.sentence("Description", "or that has more than 18 digits, is malformed");
        // All but the first row would be expressions if their digits were not too many.
        Taker.allRefuse(due, 1000000000000000000L, 1000000000000000003L, 3000000000000000000L, Long.MAX_VALUE);
        Taker.allRefuse(due, 8888888888888888881L, 8888888888888888883L, 6161616161616161611L, 7373737373737373733L);
        Taker.allRefuse(due, 6666666663333333333L, 6888888888888888833L, 8866666666333333333L);
    }

    private static void rootHasPosition0() {
        due.sentence("Description", "The position of a node is the number of digits in front of its digit; the root has position 0.");
        RegexSimplifier x = new RegexSimplifier();
        due.is("isApplicable(613, 0, 0)", x.isApplicable(613L, 0, 0), 1);
        due.is("isApplicable(7381, 3, 0)", x.isApplicable(7381L, 3, 0), 0);
        due.is("isApplicable(7381, 3, 1)", x.isApplicable(7381L, 3, 1), 0);
        due.is("isApplicable(7381, 3, 2)", x.isApplicable(7381L, 3, 2), 1);
        due.is("isApplicable(7381, 3, 3)", x.isApplicable(7381L, 3, 3), 0);
        due.is("isApplicable(7381, 3, 4)", x.isApplicable(7381L, 3, 4), -3);
        long longest = 737373737373737381L;
        due.is("isApplicable(" + longest + ", 3, 15)", x.isApplicable(longest, 3, 15), 0);
        due.is("isApplicable(" + longest + ", 3, 16)", x.isApplicable(longest, 3, 16), 1);
        due.is("isApplicable(" + longest + ", 3, 17)", x.isApplicable(longest, 3, 17), 0);
        due.is("isApplicable(" + longest + ", 3, 18)", x.isApplicable(longest, 3, 18), -3);
    }

    private static void symbolsAreNumbered() {
        due.sentence("Description", "Symbols are numbered 0 (a), 1 (b), 2 (c).");
        RegexSimplifier x = new RegexSimplifier();
        due.is("differenceSymbol(3, 1, 0)", x.differenceSymbol(3L, 1L, 0), 0);
        due.is("differenceSymbol(4, 1, 0)", x.differenceSymbol(4L, 1L, 0), 1);
        due.is("differenceSymbol(5, 1, 0)", x.differenceSymbol(5L, 1L, 0), 2);
    }

    private static void exactlyTheSameWords() {
        due.sentence("Description", "Two expressions are equivalent if they match exactly the same words.");
        allEquivalent(1L, 611L, 713L, 731L, 7831L, 77341L);
        allEquivalent(2L, 81L, 82L, 722L, 612L, 8713L, 888888888888888881L);
        allEquivalent(83L, 883L, 6283L, 78383L, 627383L, 888888888888888883L);
        RegexSimplifier x = new RegexSimplifier();
        due.is("differenceLength(2, 1)", x.differenceLength(2L, 1L), 0);
        due.is("differenceLength(83, 7383)", x.differenceLength(83L, 7383L), 0);
        due.is("differenceLength(aaaaaaaaa, F)", x.differenceLength(73737373737373733L, 1L), 9);
    }

    private static void allEquivalent(long... expressions) {
        RegexSimplifier x = new RegexSimplifier();
        for (long one : expressions) {
            for (long other : expressions) {
                due.is("differenceLength(" + one + ", " + other + ")", x.differenceLength(one, other), -9);
            }
        }
    }

    private static void rewrites(int rule, String left, String right) {
        RegexSimplifier x = new RegexSimplifier();
        long regex = Long.parseLong(left);
        due.is("isApplicable(" + left + ", " + rule + ", 0)", x.isApplicable(regex, rule, 0), 1);
        due.is("rewrite(" + left + ", " + rule + ", 0)", x.rewrite(regex, rule, 0), Long.parseLong(right));
    }

    private static void rewritesNot(int rule, String text, int position) {
        RegexSimplifier x = new RegexSimplifier();
        long regex = Long.parseLong(text);
        String where = "(" + text + ", " + rule + ", " + position + ")";
        due.is("isApplicable" + where, x.isApplicable(regex, rule, position), 0);
        due.is("rewrite" + where, x.rewrite(regex, rule, position), -4);
    }

    private static void lettersStandForAnyExpressions() {
        due.sentence("Description", "In the table x, y and z stand for any expressions");
        String[] leaves = {"1", "2", "3", "4", "5"};
        for (String x : leaves) {
            everyLeftSide(x, "2", "3");
            everyLeftSide(x, "84", "1");
        }
        everyLeftSide("634", "5", "2");
        everyLeftSide("735", "83", "4");
        longestLeftSides();
    }

    private static void everyLeftSide(String x, String y, String z) {
        rewrites(0, "61" + x, x);
        rewrites(0, "6" + x + "1", x);
        rewrites(1, "71" + x, "1");
        rewrites(1, "7" + x + "1", "1");
        rewrites(2, "72" + x, x);
        rewrites(2, "7" + x + "2", x);
        rewrites(3, "81", "2");
        rewrites(3, "82", "2");
        rewrites(4, "6" + x + x, x);
        rewrites(5, "88" + x, "8" + x);
        rewrites(6, "862" + x, "8" + x);
        rewrites(6, "86" + x + "2", "8" + x);
        rewrites(7, "78" + x + "8" + x, "8" + x);
        rewrites(8, "628" + x, "8" + x);
        rewrites(8, "68" + x + "2", "8" + x);
        rewrites(9, "6" + x + "8" + x, "8" + x);
        rewrites(9, "68" + x + x, "8" + x);
        rewrites(10, "67" + x + y + "7" + x + z, "7" + x + "6" + y + z);
        rewrites(11, "67" + x + z + "7" + y + z, "76" + x + y + z);
        rewrites(12, "627" + x + "8" + x, "8" + x);
        rewrites(12, "6278" + x + x, "8" + x);
        rewrites(12, "67" + x + "8" + x + "2", "8" + x);
        rewrites(12, "678" + x + x + "2", "8" + x);
        rewrites(13, "868" + x + y, "86" + x + y);
        rewrites(13, "86" + x + "8" + y, "86" + x + y);
        rewrites(14, "878" + x + "8" + y, "86" + x + y);
        rewrites(15, "6" + x + "6" + x + y, "6" + x + y);
        rewrites(15, "6" + x + "6" + y + x, "6" + x + y);
    }

    /** The longest parts that 18 digits have room for. */
    private static void longestLeftSides() {
        String of6 = "763483";
        String of7 = "6734735";
        String of8 = "8" + of7;
        String of15 = "666666633333333";
        String of16 = "8" + of15;
        rewrites(0, "61" + of16, of16);
        rewrites(0, "6" + of16 + "1", of16);
        rewrites(1, "71" + of16, "1");
        rewrites(1, "7" + of16 + "1", "1");
        rewrites(2, "72" + of16, of16);
        rewrites(2, "7" + of16 + "2", of16);
        rewrites(4, "6" + of8 + of8, of8);
        rewrites(5, "88" + of16, "8" + of16);
        rewrites(6, "862" + of15, "8" + of15);
        rewrites(6, "86" + of15 + "2", "8" + of15);
        rewrites(7, "78" + of7 + "8" + of7, "8" + of7);
        rewrites(8, "628" + of15, "8" + of15);
        rewrites(8, "68" + of15 + "2", "8" + of15);
        rewrites(9, "6" + of8 + "8" + of8, "8" + of8);
        rewrites(9, "68" + of8 + of8, "8" + of8);
        rewrites(10, "67" + of6 + "5" + "7" + of6 + "84", "7" + of6 + "6" + "5" + "84");
        rewrites(11, "67" + "5" + of6 + "7" + "84" + of6, "76" + "5" + "84" + of6);
        rewrites(12, "627" + of7 + "8" + of7, "8" + of7);
        rewrites(12, "6278" + of7 + of7, "8" + of7);
        rewrites(12, "67" + of7 + "8" + of7 + "2", "8" + of7);
        rewrites(12, "678" + of7 + of7 + "2", "8" + of7);
        rewrites(13, "868" + of7 + of8, "86" + of7 + of8);
        rewrites(13, "86" + of7 + "8" + of8, "86" + of7 + of8);
        rewrites(14, "878" + of7 + "8" + of7, "86" + of7 + of7);
        rewrites(15, "6" + of7 + "6" + of7 + "85", "6" + of7 + "85");
        rewrites(15, "6" + of7 + "6" + "85" + of7, "6" + of7 + "85");
    }

    /** The parts match the same words, but are not identical. */
    private static void letterThatOccursTwice() {
        due.sentence("Description", "A letter that occurs twice in a rule stands for identical subexpressions.");
        String one = "634";
        String other = "643";
        rewritesNot(4, "6" + one + other, 0);
        rewritesNot(7, "78" + one + "8" + other, 0);
        rewritesNot(9, "6" + one + "8" + other, 0);
        rewritesNot(9, "68" + one + other, 0);
        rewritesNot(10, "67" + one + "37" + other + "4", 0);
        rewritesNot(11, "673" + one + "74" + other, 0);
        rewritesNot(12, "627" + one + "8" + other, 0);
        rewritesNot(12, "6278" + one + other, 0);
        rewritesNot(12, "67" + one + "8" + other + "2", 0);
        rewritesNot(12, "678" + one + other + "2", 0);
        rewritesNot(15, "6" + one + "6" + other + "5", 0);
        rewritesNot(15, "6" + one + "65" + other, 0);
        rewritesNot(4, "683883", 0);
        rewritesNot(7, "783883", 0);
        rewritesNot(9, "68388883", 0);
    }

    private static void firstLeftSideThatMatchesIsUsed() {
        due.sentence("Description", "they are tried in the order given and the first one that matches is used");
        rewrites(13, "868384", "86384");
        rewrites(13, "868484", "86484");
        rewrites(13, "8688384", "868384");
        rewrites(13, "8683884", "863884");
        rewrites(13, "868182", "86182");
        rewrites(13, "86384", "8634");
    }

    private static void subexpressionWhoseRootIsAtThatPosition() {
        due.sentence("Description",
            "A rule is applicable at a position if the subexpression whose root is at that position has one of the rule's left sides.");
        fitsOnlyAt(0, "634");
        fitsOnlyAt(0, "73613", 2);
        fitsOnlyAt(0, "76134", 1);
        fitsOnlyAt(0, "61613", 0, 2);
        fitsOnlyAt(3, "688183", 2);
        fitsOnlyAt(4, "6633644", 1, 4);
        fitsOnlyAt(5, "688838884", 1, 2, 5, 6);
        fitsOnlyAt(13, "7863843", 1);
        fitsOnlyAt(15, "63634", 0);
    }

    private static void fitsOnlyAt(int rule, String text, int... positions) {
        RegexSimplifier x = new RegexSimplifier();
        for (int position = 0; position < text.length(); position++) {
            int want = 0;
            for (int fitting : positions) {
                want = fitting == position ? 1 : want;
            }
            String call = "isApplicable(" + text + ", " + rule + ", " + position + ")";
            due.is(call, x.isApplicable(Long.parseLong(text), rule, position), want);
        }
    }

    private static void replacesThatSubexpression() {
        due.sentence("Description", "Applying it replaces that subexpression by the right side.");
        rewritesAt(0, "613", 0, "3");
        rewritesAt(0, "66134", 1, "634");
        rewritesAt(0, "64613", 2, "643");
        rewritesAt(0, "7661345", 2, "76345");
        rewritesAt(1, "67134", 1, "614");
        rewritesAt(3, "737373737373737381", 16, "73737373737373732");
        rewritesAt(13, "7868384868384", 1, "786384868384");
        rewritesAt(13, "7868384868384", 7, "786838486384");
    }

    private static void rewritesAt(int rule, String text, int position, String result) {
        RegexSimplifier x = new RegexSimplifier();
        String where = "(" + text + ", " + rule + ", " + position + ")";
        due.is("rewrite" + where, x.rewrite(Long.parseLong(text), rule, position), Long.parseLong(result));
        x.load(Long.parseLong(text));
        due.is("apply of " + where, x.apply(rule, position), result.length());
        due.is("current() after apply of " + where, x.current(), Long.parseLong(result));
    }

    private static void neverRegroupedOrReordered() {
        due.sentence("Description",
            "Unions and concatenations are binary trees and are never regrouped or reordered except by these rules.");
        rewritesNot(15, "66343", 0);
        rewritesNot(15, "66433", 0);
        rewritesNot(4, "6634643", 0);
        rewritesNot(10, "6734743", 0);
        rewritesNot(11, "6734743", 0);
        rewritesNot(10, "67734573743", 0);
        rewritesNot(11, "67374577445", 0);
        rewritesNot(7, "7783483", 0);
        rewritesNot(12, "62773483", 0);
        String[] asTheyAre = {"643", "66345", "63645", "66543", "743", "77345", "73745", "77543", "8643", "66343"};
        for (String text : asTheyAre) {
            RegexSimplifier x = new RegexSimplifier();
            x.load(Long.parseLong(text));
            due.is("applicableCount() of " + text, x.applicableCount(), 0);
            due.is("simplify() of " + text, x.simplify(), 0);
            due.is("current() of " + text, x.current(), Long.parseLong(text));
            due.is("smallest() of " + text, x.smallest(), Long.parseLong(text));
        }
    }

    private static void keepsTheWordsAndMakesItSmaller() {
        due.sentence("Description", "Every rule keeps the matched words and makes the expression smaller.");
        String[][] parts = {{"3", "4", "5"}, {"84", "5", "3"}, {"1", "2", "3"}, {"2", "1", "83"}, {"634", "85", "3"}};
        for (int rule = 0; rule < 16; rule++) {
            String[] sides = Oracle.RULES[rule];
            for (int side = 0; side < sides.length - 1; side++) {
                for (String[] part : parts) {
                    String text = sides[side].replace("x", part[0]).replace("y", part[1]).replace("z", part[2]);
                    keepsTheWords(rule, Long.parseLong(text));
                }
            }
        }
    }

    private static void keepsTheWords(int rule, long regex) {
        RegexSimplifier x = new RegexSimplifier();
        long result = x.rewrite(regex, rule, 0);
        due.is("differenceLength of rewrite(" + regex + ", " + rule + ", 0)", x.differenceLength(regex, result), -9);
        due.holds("rewrite(" + regex + ", " + rule + ", 0) is smaller", x.size(result) < x.size(regex));
    }

    private static void oneCurrentExpressionAndItsSteps() {
        due.sentence("Description",
            "An object holds one current expression and the list of steps that produced it since it was loaded.");
        RegexSimplifier x = new RegexSimplifier();
        x.load(888888888888888881L);
        x.simplify();
        due.is("the steps on 888888888888888881", replayed(x, 888888888888888881L), x.current());
        x.load(6268283L);
        x.apply(3, 3);
        x.simplify();
        due.is("the steps on 6268283", replayed(x, 6268283L), x.current());
        due.is("stepCount()", x.stepCount(), 3);
        x.undo(2);
        due.is("the steps on 6268283 after undo(2)", replayed(x, 6268283L), 626283L);
        due.is("current() after undo(2)", x.current(), 626283L);
    }

    private static long replayed(RegexSimplifier x, long loaded) {
        long at = loaded;
        for (int index = 0; index < x.stepCount(); index++) {
            at = x.rewrite(at, x.stepRule(index), x.stepPosition(index));
        }
        return at;
    }

    private static void othersLeaveTheStateAlone() {
        due.sentence("Description",
            "load() replaces the current expression; all other methods that take an expression as a parameter leave the state alone.");
        long[] given = {3L, 613L, 6268283L, 888888888888888881L};
        for (Taker taker : Taker.ALL) {
            for (long regex : given) {
                RegexSimplifier x = new RegexSimplifier();
                x.load(888623L);
                x.apply(5, 1);
                taker.made().on(x, regex);
                boolean loads = taker.call().startsWith("load");
                String after = " after " + taker.callOf(regex);
                due.is("current()" + after, x.current(), loads ? regex : 88623L);
                due.is("stepCount()" + after, x.stepCount(), loads ? 0 : 1);
                due.is("stepRule(0)" + after, x.stepRule(0), loads ? -5 : 5);
                due.is("stepPosition(0)" + after, x.stepPosition(0), loads ? -5 : 1);
                due.is("undo(1)" + after, x.undo(1), loads ? -5 : 0);
                due.is("current() after undo(1)" + after, x.current(), loads ? regex : 888623L);
            }
        }
    }

    private static void errorsAreNegativeConstants() {
        due.sentence("Description", "Errors are returned as the negative constants below.");
        RegexSimplifier x = new RegexSimplifier();
        due.is("MALFORMED", RegexSimplifier.MALFORMED, -1);
        due.is("size(33)", x.size(33L), -1);
        due.is("NO_SUCH_RULE", RegexSimplifier.NO_SUCH_RULE, -2);
        due.is("rewrite(3, 16, 0)", x.rewrite(3L, 16, 0), -2);
        due.is("NO_SUCH_POSITION", RegexSimplifier.NO_SUCH_POSITION, -3);
        due.is("rewrite(3, 0, 1)", x.rewrite(3L, 0, 1), -3);
        due.is("NOT_APPLICABLE", RegexSimplifier.NOT_APPLICABLE, -4);
        due.is("rewrite(3, 0, 0)", x.rewrite(3L, 0, 0), -4);
        due.is("OUT_OF_RANGE", RegexSimplifier.OUT_OF_RANGE, -5);
        due.is("countWords(3, 7)", x.countWords(3L, 7), -5);
        due.is("LIMIT_EXCEEDED", RegexSimplifier.LIMIT_EXCEEDED, -6);
        x.load(8681868811L);
        due.is("smallest()", x.smallest(), -6);
        due.is("NONE", RegexSimplifier.NONE, -9);
        due.is("firstRule(3)", x.firstRule(3L), -9);
    }

    private static void firstErrorThatApplies() {
        due.sentence("Description",
            "Each method lists its errors in the order in which they are checked; the first one that applies is returned.");
        RegexSimplifier x = new RegexSimplifier();
        due.is("countWords(33, 7)", x.countWords(33L, 7), -1);
        due.is("differenceSymbol(33, 33, -1)", x.differenceSymbol(33L, 33L, -1), -1);
        due.is("differenceSymbol(33, 3, 9)", x.differenceSymbol(33L, 3L, 9), -1);
        due.is("differenceSymbol(3, 33, 9)", x.differenceSymbol(3L, 33L, 9), -1);
        due.is("differenceSymbol(3, 3, -1)", x.differenceSymbol(3L, 3L, -1), -9);
        due.is("isApplicable(33, 16, 9)", x.isApplicable(33L, 16, 9), -1);
        due.is("isApplicable(33, 16, 0)", x.isApplicable(33L, 16, 0), -1);
        due.is("isApplicable(33, 0, 9)", x.isApplicable(33L, 0, 9), -1);
        due.is("isApplicable(3, 16, 9)", x.isApplicable(3L, 16, 9), -2);
        due.is("rewrite(33, 16, 9)", x.rewrite(33L, 16, 9), -1);
        due.is("rewrite(33, 16, 0)", x.rewrite(33L, 16, 0), -1);
        due.is("rewrite(33, 0, 9)", x.rewrite(33L, 0, 9), -1);
        due.is("rewrite(33, 0, 0)", x.rewrite(33L, 0, 0), -1);
        due.is("rewrite(3, 16, 9)", x.rewrite(3L, 16, 9), -2);
        due.is("rewrite(3, 16, 0)", x.rewrite(3L, 16, 0), -2);
        due.is("rewrite(3, 0, 9)", x.rewrite(3L, 0, 9), -3);
        due.is("apply(16, 9)", x.apply(16, 9), -2);
        due.is("apply(16, 0)", x.apply(16, 0), -2);
        due.is("apply(0, 9)", x.apply(0, 9), -3);
        due.is("apply(0, 0)", x.apply(0, 0), -4);
    }
}
