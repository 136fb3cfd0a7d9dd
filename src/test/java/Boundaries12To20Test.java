/** The boundary cases of promises 12 to 20, a method for each sentence; its name begins with the promise. */
public final class Boundaries12To20Test {
    private static final Due due = new Due("Boundaries12To20Test");
    private static final int[] FAR_OUTSIDE = {Integer.MIN_VALUE, Integer.MIN_VALUE + 1, -1000, 1000, Integer.MAX_VALUE};

    /** The most stars: 17 steps lead to the empty word. */
    private static final long LONGEST = 888888888888888881L;

    /** 6268283 is E|(E*|a*): 3 at 3, 15 at 0 and 8 at 0 are what simplify does to it. */
    private static final long[] FIRST = Model.step(3, 3, 626283L);
    private static final long[] SECOND = Model.step(15, 0, 6283L);
    private static final long[] THIRD = Model.step(8, 0, 83L);

    public static void main(String[] args) {
        p12MakesItTheCurrentOne();
        p12ForgetsAllSteps();
        p12ReturnsItsSize();
        p12Malformed();
        p13CurrentExpression();
        p14RecordsTheStep();
        p14RuleFrom0To15();
        p14SizeOfTheNewCurrent();
        p14NoSuchRule();
        p14NoSuchPosition();
        p14NotApplicable();
        p15FirstStepAgainAndAgain();
        p15RecordsTheseSteps();
        p15StepsOfThisCall();
        p16TakesBackTheLatest();
        p16From0ToStepCount();
        p16StepsThatAreLeft();
        p16OutOfRange();
        p17SinceTheLoad();
        p17WithoutThoseTakenBack();
        p18IndexFrom0ForTheOldest();
        p18OutOfRange();
        p19IndexFrom0ForTheOldest();
        p19OutOfRange();
        p20PairsOfRuleAndPosition();
        due.end();
    }

    private static RegexSimplifier loaded(long regex) {
        RegexSimplifier x = new RegexSimplifier();
        x.load(regex);
        return x;
    }

    private static RegexSimplifier simplified(long regex) {
        RegexSimplifier x = loaded(regex);
        x.simplify();
        return x;
    }

    private static void p12MakesItTheCurrentOne() {
        due.sentence("Promise 12", "Makes an expression the current one and forgets all steps.");
        long[] expressions = {1L, 5L, 83L, 634L, 66666666333333333L, 616161616161616181L, 888888888888888885L};
        RegexSimplifier x = new RegexSimplifier();
        for (long regex : expressions) {
            x.load(regex);
            due.is("current() after load(" + regex + ")", x.current(), regex);
        }
    }

    private static void p12ForgetsAllSteps() {
        due.sentence("Promise 12", "and forgets all steps");
        RegexSimplifier x = simplified(LONGEST);
        x.load(6268283L);
        new Model(6268283L).check(due, "after load behind 17 steps", x);
        due.is("undo(1) after load", x.undo(1), -5);
        x.apply(3, 3);
        x.load(626283L);
        new Model(626283L).check(due, "after load of the current expression", x);
        due.is("undo(1) after load of the current expression", x.undo(1), -5);
        x.apply(15, 0);
        new Model(626283L, SECOND).check(due, "after a step behind load", x);
        x.undo(1);
        x.load(626283L);
        due.is("undo(0) after load", x.undo(0), 0);
        new Model(626283L).check(due, "after load behind undo", x);
    }

    private static void p12ReturnsItsSize() {
        due.sentence("Promise 12", "Returns its size");
        RegexSimplifier x = new RegexSimplifier();
        long stars = 0;
        for (int size = 1; size <= 18; size++) {
            due.is("load(" + (stars * 10 + 3) + ")", x.load(stars * 10 + 3), size);
            stars = stars * 10 + 8;
        }
        due.is("load(3)", x.load(3L), 1);
    }

    private static void p12Malformed() {
        due.sentence("Promise 12", "Returns its size; MALFORMED.");
        for (long number : Expressions.MALFORMED) {
            RegexSimplifier x = simplified(6268283L);
            due.is("load(" + number + ")", x.load(number), -1);
            new Model(6268283L, FIRST, SECOND, THIRD).check(due, "after load(" + number + ")", x);
        }
    }

    private static void p13CurrentExpression() {
        due.sentence("Promise 13", "Returns the current expression.");
        RegexSimplifier x = new RegexSimplifier();
        due.is("current() of a new object", x.current(), 1);
        x.load(LONGEST);
        due.is("current() after load", x.current(), LONGEST);
        due.is("current() again", x.current(), LONGEST);
        x.apply(3, 16);
        due.is("current() after apply", x.current(), 88888888888888882L);
        x.simplify();
        due.is("current() after simplify", x.current(), 2);
        x.undo(16);
        due.is("current() after undo", x.current(), 88888888888888882L);
        x.undo(1);
        due.is("current() after undo of all", x.current(), LONGEST);
    }

    private static void p14RecordsTheStep() {
        due.sentence("Promise 14", "Applies a rule to the current expression and records the step.");
        RegexSimplifier x = loaded(6268283L);
        x.apply(3, 3);
        new Model(6268283L, FIRST).check(due, "after one step", x);
        x.apply(15, 0);
        new Model(6268283L, FIRST, SECOND).check(due, "after two steps", x);
        x.apply(8, 0);
        new Model(6268283L, FIRST, SECOND, THIRD).check(due, "after three steps", x);
        x.undo(3);
        x.apply(3, 3);
        new Model(6268283L, FIRST).check(due, "after one step behind undo", x);
        RegexSimplifier longest = loaded(LONGEST);
        for (int step = 0; step < 17; step++) {
            longest.apply(3, 16 - step);
        }
        due.is("stepCount() after 17 steps", longest.stepCount(), 17);
        due.is("stepPosition(0) after 17 steps", longest.stepPosition(0), 16);
        due.is("stepPosition(16) after 17 steps", longest.stepPosition(16), 0);
    }

    private static void p14RuleFrom0To15() {
        due.sentence("Promise 14", "`rule`: the number of a rule, 0 to 15");
        for (int rule = 0; rule < 16; rule++) {
            RegexSimplifier x = loaded(Expressions.ONE_RULE[rule]);
            String of = ", 0) of " + Expressions.ONE_RULE[rule];
            due.is("apply(-1" + of, x.apply(-1, 0), -2);
            due.is("apply(16" + of, x.apply(16, 0), -2);
            due.holds("apply(" + rule + of + " is taken", x.apply(rule, 0) > 0);
            due.is("current() after apply(" + rule + of, x.current(), Expressions.ONE_RULE_RESULTS[rule]);
        }
    }

    private static void p14SizeOfTheNewCurrent() {
        due.sentence("Promise 14", "Returns the size of the new current expression");
        RegexSimplifier x = loaded(LONGEST);
        for (int size = 17; size >= 1; size--) {
            due.is("apply(3, " + (size - 1) + ")", x.apply(3, size - 1), size);
        }
        due.is("apply(1, 0) of 71 and 16 digits", loaded(718888888888888883L).apply(1, 0), 1);
        due.is("apply(0, 0) of 61 and 16 digits", loaded(618888888888888883L).apply(0, 0), 16);
    }

    private static void p14NoSuchRule() {
        due.sentence("Promise 14", "Returns the size of the new current expression; NO_SUCH_RULE");
        due.is("apply(0, 0)", loaded(613L).apply(0, 0), 1);
        due.is("apply(15, 0)", loaded(63634L).apply(15, 0), 3);
        int[] rules = {-1, 16, 17, -16, 255, Integer.MIN_VALUE, Integer.MAX_VALUE};
        int[] positions = {0, 1, -1, 3, Integer.MAX_VALUE};
        for (int rule : rules) {
            for (int position : positions) {
                due.is("apply(" + rule + ", " + position + ") of 613", loaded(613L).apply(rule, position), -2);
            }
        }
    }

    /** The positions are those of the current expression, not of the one that was loaded. */
    private static void p14NoSuchPosition() {
        due.sentence("Promise 14", "`position`: the position of a node of the current expression");
        due.is("apply(0, 1) of a new object", new RegexSimplifier().apply(0, 1), -3);
        due.is("apply(0, -1) of a new object", new RegexSimplifier().apply(0, -1), -3);
        due.is("apply(0, 17) of 18 digits", loaded(LONGEST).apply(0, 17), -4);
        due.is("apply(0, 18) of 18 digits", loaded(LONGEST).apply(0, 18), -3);
        RegexSimplifier x = loaded(6268283L);
        due.is("apply(4, 6) of 7 digits", x.apply(4, 6), -4);
        due.is("apply(4, 7) of 7 digits", x.apply(4, 7), -3);
        x.apply(3, 3);
        due.is("apply(4, 5) of 6 digits", x.apply(4, 5), -4);
        due.is("apply(4, 6) of 6 digits", x.apply(4, 6), -3);
        x.undo(1);
        due.is("apply(4, 6) of 7 digits again", x.apply(4, 6), -4);
        for (int position : FAR_OUTSIDE) {
            due.is("apply(3, " + position + ")", x.apply(3, position), -3);
        }
        new Model(6268283L).check(due, "after the errors", x);
    }

    private static void p14NotApplicable() {
        due.sentence("Promise 14", "NO_SUCH_RULE; NO_SUCH_POSITION; NOT_APPLICABLE");
        RegexSimplifier x = loaded(6268283L);
        x.apply(3, 3);
        for (int rule = 0; rule < 16; rule++) {
            for (int position = 0; position < 6; position++) {
                if (Oracle.rewrite("626283", rule, position) == null) {
                    due.is("apply(" + rule + ", " + position + ") of 626283", x.apply(rule, position), -4);
                }
            }
        }
        new Model(6268283L, FIRST).check(due, "after the errors", x);
        due.is("apply(15, 0)", x.apply(15, 0), 4);
        new Model(6268283L, FIRST, SECOND).check(due, "after the errors and a step", x);
    }

    private static void p15FirstStepAgainAndAgain() {
        due.sentence("Promise 15",
            "Applies the first applicable step (firstRule at firstPosition) to the current expression again and again, until no rule is applicable");
        RegexSimplifier x = simplified(6268283L);
        new Model(6268283L, FIRST, SECOND, THIRD).check(due, "after simplify", x);
        due.is("current() after simplify of 18 digits", simplified(LONGEST).current(), 2);
        due.is("current() after simplify of 888888888888888883", simplified(888888888888888883L).current(), 83);
        // The first steps lead to a larger expression than others would.
        due.is("current() after simplify of 8683868384", simplified(8683868384L).current(), 86368384L);
        // Nothing to do: the current expression stays.
        due.is("current() after simplify of 1", simplified(1L).current(), 1);
        due.is("current() after simplify of 73645", simplified(73645L).current(), 73645L);
        due.is("current() after simplify of 18 digits without steps", simplified(737373737373737383L).current(), 737373737373737383L);
    }

    private static void p15RecordsTheseSteps() {
        due.sentence("Promise 15", "and records these steps");
        RegexSimplifier x = loaded(6268283L);
        x.apply(3, 3);
        x.simplify();
        new Model(6268283L, FIRST, SECOND, THIRD).check(due, "after simplify behind apply", x);
        x.simplify();
        new Model(6268283L, FIRST, SECOND, THIRD).check(due, "after simplify with nothing to do", x);
        x.undo(2);
        x.simplify();
        new Model(6268283L, FIRST, SECOND, THIRD).check(due, "after simplify behind undo", x);
        RegexSimplifier longest = simplified(LONGEST);
        for (int index = 0; index < 17; index++) {
            due.is("stepRule(" + index + ") of 17", longest.stepRule(index), index < 16 ? 5 : 3);
            due.is("stepPosition(" + index + ") of 17", longest.stepPosition(index), 0);
        }
        due.is("stepRule(17) of 17", longest.stepRule(17), -5);
        for (int left = 16; left >= 0; left--) {
            due.is("undo(1) of 17 steps", longest.undo(1), left);
        }
        due.is("current() after undo of 17 steps", longest.current(), LONGEST);
    }

    private static void p15StepsOfThisCall() {
        due.sentence("Promise 15", "Returns the number of steps applied by this call.");
        RegexSimplifier x = new RegexSimplifier();
        due.is("simplify() of a new object", x.simplify(), 0);
        x.load(6268283L);
        due.is("simplify() of 6268283", x.simplify(), 3);
        due.is("simplify() again", x.simplify(), 0);
        x.undo(1);
        due.is("simplify() behind undo(1)", x.simplify(), 1);
        x.undo(3);
        x.apply(3, 3);
        due.is("simplify() behind apply", x.simplify(), 2);
        x.load(LONGEST);
        due.is("simplify() of 18 digits", x.simplify(), 17);
        due.is("simplify() of 18 digits again", x.simplify(), 0);
        x.load(737373737373737383L);
        due.is("simplify() of 18 digits without steps", x.simplify(), 0);
    }

    private static void p16TakesBackTheLatest() {
        due.sentence("Promise 16", "Takes back the latest steps, so that the current expression is the one in front of them.");
        new Model(6268283L, FIRST, SECOND, THIRD).checkByUndoing(due, "one by one", simplified(6268283L));
        RegexSimplifier x = simplified(6268283L);
        x.undo(2);
        new Model(6268283L, FIRST).check(due, "after undo(2)", x);
        x.apply(15, 0);
        new Model(6268283L, FIRST, SECOND).check(due, "after apply behind undo(2)", x);
        x.undo(1);
        new Model(6268283L, FIRST).check(due, "after undo(1) of the new step", x);
        x.undo(1);
        new Model(6268283L).check(due, "after undo of all", x);
        // Another way after undo: of the steps that were taken back nothing is left.
        x = simplified(888623L);
        x.undo(3);
        x.apply(6, 2);
        new Model(888623L, Model.step(6, 2, 8883L)).check(due, "after another step", x);
        new Model(888623L, Model.step(6, 2, 8883L)).checkByUndoing(due, "after another step", x);
    }

    private static void p16From0ToStepCount() {
        due.sentence("Promise 16", "`count`: how many steps to take back, 0 to stepCount()");
        for (int count = 0; count <= 17; count++) {
            RegexSimplifier x = simplified(LONGEST);
            due.is("undo(" + count + ") of 17", x.undo(count), 17 - count);
            due.is("undo(stepCount()) behind undo(" + count + ")", x.undo(17 - count), 0);
            due.is("current() behind undo of all", x.current(), LONGEST);
        }
        RegexSimplifier none = new RegexSimplifier();
        due.is("undo(0) of a new object", none.undo(0), 0);
        new Model(1L).check(due, "after undo(0) of a new object", none);
        RegexSimplifier x = simplified(6268283L);
        due.is("undo(0)", x.undo(0), 3);
        new Model(6268283L, FIRST, SECOND, THIRD).check(due, "after undo(0)", x);
        due.is("undo(3)", x.undo(3), 0);
        new Model(6268283L).check(due, "after undo(3)", x);
        due.is("undo(0) of none", x.undo(0), 0);
        new Model(6268283L).check(due, "after undo(0) of none", x);
    }

    private static void p16StepsThatAreLeft() {
        due.sentence("Promise 16", "Returns the number of steps that are left");
        RegexSimplifier x = simplified(6268283L);
        due.is("undo(1)", x.undo(1), 2);
        due.is("undo(1) again", x.undo(1), 1);
        due.is("undo(0)", x.undo(0), 1);
        due.is("undo(1) of the last", x.undo(1), 0);
    }

    private static void p16OutOfRange() {
        due.sentence("Promise 16", "Returns the number of steps that are left; OUT_OF_RANGE.");
        RegexSimplifier x = new RegexSimplifier();
        due.is("undo(-1) of a new object", x.undo(-1), -5);
        due.is("undo(1) of a new object", x.undo(1), -5);
        x = simplified(6268283L);
        due.is("undo(-1) of 3", x.undo(-1), -5);
        due.is("undo(4) of 3", x.undo(4), -5);
        for (int count : FAR_OUTSIDE) {
            due.is("undo(" + count + ") of 3", x.undo(count), -5);
        }
        new Model(6268283L, FIRST, SECOND, THIRD).check(due, "after the errors", x);
        x.undo(1);
        due.is("undo(3) of 2", x.undo(3), -5);
        new Model(6268283L, FIRST, SECOND).check(due, "after the error behind undo", x);
        x = simplified(LONGEST);
        due.is("undo(18) of 17", x.undo(18), -5);
        due.is("stepCount() after undo(18)", x.stepCount(), 17);
        due.is("current() after undo(18)", x.current(), 2);
    }

    private static void p17SinceTheLoad() {
        due.sentence("Promise 17", "Returns the number of recorded steps since the current expression was loaded");
        RegexSimplifier x = new RegexSimplifier();
        due.is("stepCount() of a new object", x.stepCount(), 0);
        x.load(LONGEST);
        due.is("stepCount() after load", x.stepCount(), 0);
        for (int step = 1; step <= 17; step++) {
            x.apply(3, 17 - step);
            due.is("stepCount() after apply", x.stepCount(), step);
        }
        x.load(LONGEST);
        due.is("stepCount() after another load", x.stepCount(), 0);
        x.simplify();
        due.is("stepCount() after simplify", x.stepCount(), 17);
        x.simplify();
        due.is("stepCount() after simplify again", x.stepCount(), 17);
    }

    private static void p17WithoutThoseTakenBack() {
        due.sentence("Promise 17", "without those taken back");
        RegexSimplifier x = simplified(6268283L);
        x.undo(0);
        due.is("stepCount() after undo(0)", x.stepCount(), 3);
        x.undo(1);
        due.is("stepCount() after undo(1)", x.stepCount(), 2);
        x.apply(8, 0);
        due.is("stepCount() after apply", x.stepCount(), 3);
        x.undo(3);
        due.is("stepCount() after undo of all", x.stepCount(), 0);
    }

    /** 17 steps with positions of their own: 16, 15 and so on down to 0. */
    private static RegexSimplifier seventeenSteps() {
        RegexSimplifier x = loaded(LONGEST);
        for (int position = 16; position >= 0; position--) {
            x.apply(3, position);
        }
        return x;
    }

    private static void p18IndexFrom0ForTheOldest() {
        due.sentence("Promise 18", "`index`: the index of the step, from 0 for the oldest");
        RegexSimplifier x = simplified(6268283L);
        due.is("stepRule(0)", x.stepRule(0), 3);
        due.is("stepRule(1)", x.stepRule(1), 15);
        due.is("stepRule(2)", x.stepRule(2), 8);
        RegexSimplifier other = loaded(613L);
        other.apply(0, 0);
        due.is("stepRule(0) of rule 0", other.stepRule(0), 0);
        due.is("stepRule(16) of 17", seventeenSteps().stepRule(16), 3);
        due.is("stepRule(15) of 17 by simplify", simplified(LONGEST).stepRule(15), 5);
        due.is("stepRule(16) of 17 by simplify", simplified(LONGEST).stepRule(16), 3);
        x.undo(3);
        x.load(868384L);
        x.apply(13, 0);
        due.is("stepRule(0) after another load", x.stepRule(0), 13);
    }

    private static void p18OutOfRange() {
        due.sentence("Promise 18", "Returns its rule; OUT_OF_RANGE.");
        due.is("stepRule(0) of a new object", new RegexSimplifier().stepRule(0), -5);
        RegexSimplifier x = simplified(6268283L);
        due.is("stepRule(-1)", x.stepRule(-1), -5);
        due.is("stepRule(3) of 3", x.stepRule(3), -5);
        for (int index : FAR_OUTSIDE) {
            due.is("stepRule(" + index + ")", x.stepRule(index), -5);
        }
        x.undo(1);
        due.is("stepRule(2) taken back", x.stepRule(2), -5);
        due.is("stepRule(1) not taken back", x.stepRule(1), 15);
        x.load(6268283L);
        due.is("stepRule(0) forgotten", x.stepRule(0), -5);
        due.is("stepRule(17) of 17", seventeenSteps().stepRule(17), -5);
    }

    private static void p19IndexFrom0ForTheOldest() {
        due.sentence("Promise 19", "`index`: the index of the step, from 0 for the oldest");
        RegexSimplifier x = seventeenSteps();
        for (int index = 0; index < 17; index++) {
            due.is("stepPosition(" + index + ")", x.stepPosition(index), 16 - index);
        }
        x.load(6268283L);
        x.apply(3, 3);
        due.is("stepPosition(0) after another load", x.stepPosition(0), 3);
    }

    private static void p19OutOfRange() {
        due.sentence("Promise 19", "Returns its position; OUT_OF_RANGE.");
        due.is("stepPosition(0) of a new object", new RegexSimplifier().stepPosition(0), -5);
        RegexSimplifier x = simplified(6268283L);
        due.is("stepPosition(-1)", x.stepPosition(-1), -5);
        due.is("stepPosition(3) of 3", x.stepPosition(3), -5);
        for (int index : FAR_OUTSIDE) {
            due.is("stepPosition(" + index + ")", x.stepPosition(index), -5);
        }
        x.undo(1);
        due.is("stepPosition(2) taken back", x.stepPosition(2), -5);
        due.is("stepPosition(1) not taken back", x.stepPosition(1), 0);
        x.load(6268283L);
        due.is("stepPosition(0) forgotten", x.stepPosition(0), -5);
        due.is("stepPosition(17) of 17", seventeenSteps().stepPosition(17), -5);
    }

    private static void pairs(long regex, int want) {
        due.is("applicableCount() of " + regex, loaded(regex).applicableCount(), want);
    }

    private static void p20PairsOfRuleAndPosition() {
        due.sentence("Promise 20",
            "Counts the pairs of a rule and a position for which the rule is applicable to the current expression at that position.");
        due.is("applicableCount() of a new object", new RegexSimplifier().applicableCount(), 0);
        pairs(3L, 0);
        pairs(737373737373737383L, 0);
        pairs(613L, 1);
        pairs(63634L, 1);
        pairs(611L, 2);
        pairs(6734734L, 3);
        pairs(6633644L, 2);
        pairs(61613L, 3);
        pairs(737373737373737381L, 1);
        pairs(LONGEST, 17);
        RegexSimplifier x = loaded(6268283L);
        due.is("applicableCount() after load", x.applicableCount(), 1);
        new Model(6268283L).check(due, "after applicableCount()", x);
        x.apply(3, 3);
        due.is("applicableCount() after apply", x.applicableCount(), 2);
        new Model(6268283L, FIRST).check(due, "after applicableCount()", x);
        x.undo(1);
        due.is("applicableCount() after undo", x.applicableCount(), 1);
    }
}
