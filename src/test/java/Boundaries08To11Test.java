/** The boundary cases of promises 8 to 11, a method for each sentence; its name begins with the promise. */
public final class Boundaries08To11Test {
    private static final Due due = new Due("Boundaries08To11Test");
    private static final int[] NO_RULES = {-1, 16, 17, -16, 255, Integer.MIN_VALUE, Integer.MAX_VALUE};

    /** Rule 3 at position 16 is the only step. */
    private static final String LAST_STEP = "737373737373737381";

    public static void main(String[] args) {
        p08OneIfApplicableZeroIfNot();
        p08Malformed();
        p08NoSuchRule();
        p08NoSuchPosition();
        p09CurrentIsNotInvolved();
        p09EncodedResult();
        p09RuleFrom0To15();
        p09PositionOfANode();
        p09Malformed();
        p09NoSuchRule();
        p09NoSuchPosition();
        p09NotApplicable();
        p10SmallestPosition();
        p10Malformed();
        p10NoneAnywhere();
        p11SmallestRuleAtFirstPosition();
        p11Malformed();
        p11NoneAnywhere();
        due.end();
    }

    private static String oneRule(int rule) {
        return Long.toString(Expressions.ONE_RULE[rule]);
    }

    private static void applicable(String text, int rule, int position, int want) {
        String call = "isApplicable(" + text + ", " + rule + ", " + position + ")";
        due.is(call, new RegexSimplifier().isApplicable(Long.parseLong(text), rule, position), want);
    }

    private static void rewritten(String text, int rule, int position, long want) {
        String call = "rewrite(" + text + ", " + rule + ", " + position + ")";
        due.is(call, new RegexSimplifier().rewrite(Long.parseLong(text), rule, position), want);
    }

    private static void p08OneIfApplicableZeroIfNot() {
        due.sentence("Promise 8", "Returns 1 if it is applicable, 0 if it is not");
        for (int fitting = 0; fitting < 16; fitting++) {
            for (int rule = 0; rule < 16; rule++) {
                applicable(oneRule(fitting), rule, 0, rule == fitting ? 1 : 0);
            }
        }
        for (int rule = 0; rule < 16; rule++) {
            applicable("1", rule, 0, 0);
            applicable(LAST_STEP, rule, 16, rule == 3 ? 1 : 0);
            applicable(LAST_STEP, rule, 17, 0);
        }
    }

    private static void p08Malformed() {
        due.sentence("Promise 8", "Returns 1 if it is applicable, 0 if it is not; MALFORMED; NO_SUCH_RULE; NO_SUCH_POSITION.");
        for (long number : Expressions.MALFORMED) {
            applicable(Long.toString(number), 0, 0, -1);
            applicable(Long.toString(number), 16, 0, -1);
            applicable(Long.toString(number), 0, -1, -1);
        }
    }

    private static void p08NoSuchRule() {
        due.sentence("Promise 8", "`rule`: the number of a rule, 0 to 15");
        applicable("613", 0, 0, 1);
        applicable("63634", 15, 0, 1);
        for (int rule : NO_RULES) {
            applicable("613", rule, 0, -2);
            applicable("63634", rule, 0, -2);
            applicable("3", rule, 0, -2);
            applicable("613", rule, 3, -2);
            applicable("613", rule, -1, -2);
        }
    }

    private static void p08NoSuchPosition() {
        due.sentence("Promise 8", "`position`: the position of a node");
        String[] texts = {"1", "613", "63634", LAST_STEP, "888888888888888883"};
        for (String text : texts) {
            applicable(text, 8, 0, 0);
            applicable(text, 8, text.length() - 1, 0);
            int[] outside = {-1, text.length(), text.length() + 1, 19, 255, Integer.MIN_VALUE, Integer.MAX_VALUE};
            for (int position : outside) {
                applicable(text, 0, position, -3);
                applicable(text, 8, position, -3);
                applicable(text, 15, position, -3);
            }
        }
    }

    private static void p09CurrentIsNotInvolved() {
        due.sentence("Promise 9", "Applies a rule to an expression that is passed in; the current expression is not involved.");
        RegexSimplifier x = new RegexSimplifier();
        x.load(8883L);
        x.apply(5, 1);
        due.is("rewrite(613, 0, 0) beside 883", x.rewrite(613L, 0, 0), 3);
        due.is("rewrite(613, 5, 0) beside 883", x.rewrite(613L, 5, 0), -4);
        due.is("rewrite(883, 5, 0) beside 883", x.rewrite(883L, 5, 0), 83);
        due.is("rewrite(3, 5, 1) beside 883", x.rewrite(3L, 5, 1), -3);
        due.is("current()", x.current(), 883);
        due.is("stepCount()", x.stepCount(), 1);
        due.is("stepRule(0)", x.stepRule(0), 5);
        due.is("stepPosition(0)", x.stepPosition(0), 1);
        due.is("undo(1)", x.undo(1), 0);
        due.is("current() after undo(1)", x.current(), 8883);
    }

    private static void p09EncodedResult() {
        due.sentence("Promise 9", "Returns the encoded result");
        rewritten("613", 0, 0, 3L);
        rewritten("81", 3, 0, 2L);
        rewritten("718888888888888883", 1, 0, 1L);
        rewritten("888888888888888885", 5, 0, 88888888888888885L);
        rewritten("888888888888888885", 5, 15, 88888888888888885L);
        rewritten(LAST_STEP, 3, 16, 73737373737373732L);
        rewritten("618888888888888885", 0, 0, 8888888888888885L);
    }

    private static void p09RuleFrom0To15() {
        due.sentence("Promise 9", "`rule`: the number of a rule, 0 to 15");
        for (int rule = 0; rule < 16; rule++) {
            rewritten(oneRule(rule), rule, 0, Expressions.ONE_RULE_RESULTS[rule]);
            rewritten(oneRule(rule), -1, 0, -2);
            rewritten(oneRule(rule), 16, 0, -2);
        }
    }

    private static void p09PositionOfANode() {
        due.sentence("Promise 9", "`position`: the position of a node");
        for (int position = 0; position < 17; position++) {
            rewritten("888888888888888881", 5, position, position < 16 ? 88888888888888881L : -4);
            rewritten("888888888888888881", 3, position, position < 16 ? -4 : 88888888888888882L);
        }
        rewritten("888888888888888881", 5, 17, -4);
        rewritten("888888888888888881", 5, 18, -3);
        rewritten("888888888888888881", 5, -1, -3);
        rewritten("6613641", 0, 0, -4);
        rewritten("6613641", 0, 1, 63641L);
        rewritten("6613641", 0, 4, 66134L);
    }

    private static void p09Malformed() {
        due.sentence("Promise 9", "Returns the encoded result; MALFORMED");
        for (long number : Expressions.MALFORMED) {
            rewritten(Long.toString(number), 0, 0, -1);
            rewritten(Long.toString(number), 16, 0, -1);
            rewritten(Long.toString(number), 0, -1, -1);
        }
    }

    private static void p09NoSuchRule() {
        due.sentence("Promise 9", "MALFORMED; NO_SUCH_RULE");
        for (int rule : NO_RULES) {
            rewritten("613", rule, 0, -2);
            rewritten("63634", rule, 0, -2);
            rewritten("3", rule, 0, -2);
            rewritten("613", rule, 3, -2);
            rewritten("613", rule, -1, -2);
        }
    }

    private static void p09NoSuchPosition() {
        due.sentence("Promise 9", "NO_SUCH_RULE; NO_SUCH_POSITION");
        String[] texts = {"1", "613", "63634", LAST_STEP, "888888888888888883"};
        for (String text : texts) {
            rewritten(text, 8, 0, -4);
            rewritten(text, 8, text.length() - 1, -4);
            int[] outside = {-1, text.length(), text.length() + 1, 19, 255, Integer.MIN_VALUE, Integer.MAX_VALUE};
            for (int position : outside) {
                rewritten(text, 0, position, -3);
                rewritten(text, 8, position, -3);
                rewritten(text, 15, position, -3);
            }
        }
    }

    private static void p09NotApplicable() {
        due.sentence("Promise 9", "NO_SUCH_POSITION; NOT_APPLICABLE");
        for (int fitting = 0; fitting < 16; fitting++) {
            for (int rule = 0; rule < 16; rule++) {
                if (rule != fitting) {
                    rewritten(oneRule(fitting), rule, 0, -4);
                }
            }
        }
        for (int position = 0; position < 18; position++) {
            rewritten(LAST_STEP, 3, position, position == 16 ? 73737373737373732L : -4);
        }
        rewritten("1", 0, 0, -4);
    }

    private static void first(String text, int position, int rule) {
        RegexSimplifier x = new RegexSimplifier();
        due.is("firstPosition(" + text + ")", x.firstPosition(Long.parseLong(text)), position);
        due.is("firstRule(" + text + ")", x.firstRule(Long.parseLong(text)), rule);
    }

    private static void p10SmallestPosition() {
        due.sentence("Promise 10", "the smallest position at which any rule is applicable");
        first("613", 0, 0);
        first("7381", 2, 3);
        first("881", 0, 5);
        first("6881884", 1, 5);
        first("6633644", 1, 4);
        first("7868384613", 1, 13);
        first(LAST_STEP, 16, 3);
        for (int rule = 0; rule < 16; rule++) {
            first(oneRule(rule), 0, rule);
        }
    }

    private static void p10Malformed() {
        due.sentence("Promise 10", "Returns that position; MALFORMED");
        for (long number : Expressions.MALFORMED) {
            due.is("firstPosition(" + number + ")", new RegexSimplifier().firstPosition(number), -1);
        }
    }

    private static void p10NoneAnywhere() {
        due.sentence("Promise 10", "NONE if no rule is applicable anywhere");
        String[] texts = {"1", "2", "3", "4", "5", "83", "634", "734", "8634", "73737373737373733", "7863484",
            "737373737373737383"};
        for (String text : texts) {
            due.is("firstPosition(" + text + ")", new RegexSimplifier().firstPosition(Long.parseLong(text)), -9);
        }
    }

    private static void p11SmallestRuleAtFirstPosition() {
        due.sentence("Promise 11", "the smallest rule number that is applicable at firstPosition(regex)");
        for (int rule = 0; rule < 16; rule++) {
            first(oneRule(rule), 0, rule);
        }
        // Several rules at the first position.
        first("611", 0, 0);
        first("61611", 0, 0);
        first("712", 0, 1);
        first("721", 0, 1);
        first("6734734", 0, 4);
        first("86283", 0, 6);
        first("86832", 0, 6);
        first("6282", 0, 8);
        // A lower rule is applicable, but further behind.
        first("6363614", 0, 15);
        first("7868384613", 1, 13);
        first("881", 0, 5);
    }

    private static void p11Malformed() {
        due.sentence("Promise 11", "Returns that rule; MALFORMED");
        for (long number : Expressions.MALFORMED) {
            due.is("firstRule(" + number + ")", new RegexSimplifier().firstRule(number), -1);
        }
    }

    private static void p11NoneAnywhere() {
        due.sentence("Promise 11", "Returns that rule; MALFORMED; NONE if no rule is applicable anywhere.");
        String[] texts = {"1", "2", "3", "4", "5", "83", "634", "734", "8634", "73737373737373733", "7863484",
            "737373737373737383"};
        for (String text : texts) {
            due.is("firstRule(" + text + ")", new RegexSimplifier().firstRule(Long.parseLong(text)), -9);
        }
    }
}
