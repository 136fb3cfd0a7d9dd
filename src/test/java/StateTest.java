/** Promises 1 and 12 to 20: the current expression and its steps. */
public final class StateTest {
    private static final Due due = new Due("StateTest");

    public static void main(String[] args) {
        newObject();
        loading();
        applying();
        simplifying();
        simplifyingFurther();
        undoing();
        recordedSteps();
        applicablePairs();
        objectsApart();
        due.end();
    }

    private static void state(String when, RegexSimplifier x, long current, int... steps) {
        due.is("current() " + when, x.current(), current);
        due.is("stepCount() " + when, x.stepCount(), steps.length / 2);
        for (int index = 0; index < steps.length / 2; index++) {
            due.is("stepRule(" + index + ") " + when, x.stepRule(index), steps[2 * index]);
            due.is("stepPosition(" + index + ") " + when, x.stepPosition(index), steps[2 * index + 1]);
        }
        int[] outside = {-1, steps.length / 2, 16, 17, 18, Integer.MIN_VALUE, Integer.MAX_VALUE};
        for (int index : outside) {
            if (index < 0 || index >= steps.length / 2) {
                due.is("stepRule(" + index + ") " + when, x.stepRule(index), -5);
                due.is("stepPosition(" + index + ") " + when, x.stepPosition(index), -5);
            }
        }
    }

    private static void newObject() {
        due.sentence("Promise 1", "The current expression is the empty set (encoding 1); there are no steps.");
        RegexSimplifier x = new RegexSimplifier();
        state("of a new object", x, 1L);
        due.is("applicableCount() of a new object", x.applicableCount(), 0);
        due.is("simplify() of a new object", x.simplify(), 0);
        due.is("undo(0) of a new object", x.undo(0), 0);
        due.is("undo(1) of a new object", x.undo(1), -5);
        due.is("smallest() of a new object", x.smallest(), 1);
        due.is("smallestDistance() of a new object", x.smallestDistance(), 0);
        due.is("reachableCount() of a new object", x.reachableCount(), 1);
        state("of a new object after calls", x, 1L);
    }

    private static void loading() {
        due.sentence("Promise 12", "Makes an expression the current one and forgets all steps.");
        RegexSimplifier x = new RegexSimplifier();
        due.is("load(888623)", x.load(888623L), 6);
        state("after load", x, 888623L);
        due.is("apply(5, 0)", x.apply(5, 0), 5);
        due.is("load(33)", x.load(33L), -1);
        state("after load(33)", x, 88623L, 5, 0);
        due.is("load(3)", x.load(3L), 1);
        state("after another load", x, 3L);
        due.is("undo(1) after another load", x.undo(1), -5);
        due.is("load of 18 digits", x.load(888888888888888883L), 18);
        state("after load of 18 digits", x, 888888888888888883L);
        x.apply(5, 0);
        due.is("load of the same again", x.load(88888888888888883L), 17);
        state("after load of the same again", x, 88888888888888883L);
    }

    private static void applying() {
        due.sentence("Promise 14", "Applies a rule to the current expression and records the step.");
        RegexSimplifier x = new RegexSimplifier();
        x.load(868384L);
        due.is("apply(13, 0)", x.apply(13, 0), 5);
        state("after apply", x, 86384L, 13, 0);
        due.is("apply(13, 0) again", x.apply(13, 0), 4);
        state("after apply again", x, 8634L, 13, 0, 13, 0);
        x.load(76613481L);
        due.is("apply(3, 6)", x.apply(3, 6), 7);
        state("after the last position", x, 7661342L, 3, 6);
        due.is("apply(0, 2)", x.apply(0, 2), 5);
        state("after an inner position", x, 76342L, 3, 6, 0, 2);
        due.is("apply(2, 0)", x.apply(2, 0), 3);
        state("after the root", x, 634L, 3, 6, 0, 2, 2, 0);
        x.load(63634L);
        due.is("apply(15, 0)", x.apply(15, 0), 3);
        state("after rule 15", x, 634L, 15, 0);
    }

    private static void simplifying() {
        due.sentence("Promise 15", "Applies the first applicable step (firstRule at firstPosition)");
        RegexSimplifier x = new RegexSimplifier();
        x.load(6268283L);
        due.is("simplify() of 6268283", x.simplify(), 3);
        state("after simplify", x, 83L, 3, 3, 15, 0, 8, 0);
        due.is("simplify() again", x.simplify(), 0);
        state("after simplify again", x, 83L, 3, 3, 15, 0, 8, 0);
        x.load(611L);
        due.is("simplify() of 611", x.simplify(), 1);
        state("after simplify of 611", x, 1L, 0, 0);
        x.load(73645L);
        due.is("simplify() of 73645", x.simplify(), 0);
        state("after simplify of 73645", x, 73645L);
        x.load(8683868384L);
        due.is("simplify() of 8683868384", x.simplify(), 2);
        state("after simplify of 8683868384", x, 86368384L, 13, 0, 13, 0);
    }

    /** Steps of simplify come behind those of apply, and only its own are counted. */
    private static void simplifyingFurther() {
        due.sentence("Promise 15", "and records these steps");
        RegexSimplifier x = new RegexSimplifier();
        x.load(888623L);
        due.is("apply(6, 2)", x.apply(6, 2), 4);
        due.is("simplify() behind apply", x.simplify(), 2);
        state("after simplify behind apply", x, 83L, 6, 2, 5, 0, 5, 0);
        due.is("undo(2)", x.undo(2), 1);
        state("after undo(2)", x, 8883L, 6, 2);
        due.is("apply(5, 1)", x.apply(5, 1), 3);
        state("after apply behind undo", x, 883L, 6, 2, 5, 1);
        due.is("simplify() behind undo", x.simplify(), 1);
        state("after simplify behind undo", x, 83L, 6, 2, 5, 1, 5, 0);
    }

    private static void undoing() {
        due.sentence("Promise 16", "Takes back the latest steps");
        RegexSimplifier x = new RegexSimplifier();
        x.load(6268283L);
        x.simplify();
        due.is("undo(0)", x.undo(0), 3);
        state("after undo(0)", x, 83L, 3, 3, 15, 0, 8, 0);
        due.is("undo(1)", x.undo(1), 2);
        state("after undo(1)", x, 6283L, 3, 3, 15, 0);
        due.is("undo(2)", x.undo(2), 0);
        state("after undo(2)", x, 6268283L);
        due.is("undo(0) of none", x.undo(0), 0);
        due.is("undo(1) of none", x.undo(1), -5);
        x.simplify();
        due.is("undo(stepCount())", x.undo(x.stepCount()), 0);
        state("after undo(stepCount())", x, 6268283L);
    }

    /** What is known of each step: its rule, its position and the expression behind it. */
    private static void recordedSteps() {
        int[][] steps = {{1, 6}, {0, 2}, {0, 0}};
        long[] behind = {6661341L, 66341L, 634L};
        RegexSimplifier x = new RegexSimplifier();
        x.load(666134713L);
        for (int taken = 1; taken <= steps.length; taken++) {
            x.apply(steps[taken - 1][0], steps[taken - 1][1]);
            due.sentence("Promise 13", "Returns its encoding.");
            due.is("current() behind step " + taken, x.current(), behind[taken - 1]);
            due.sentence("Promise 17", "Returns the number of steps.");
            due.is("stepCount() behind step " + taken, x.stepCount(), taken);
            due.sentence("Promise 18", "Returns the rule of a recorded step.");
            for (int index = 0; index < taken; index++) {
                due.is("stepRule(" + index + ") behind step " + taken, x.stepRule(index), steps[index][0]);
            }
            due.sentence("Promise 19", "Returns the position of a recorded step.");
            for (int index = 0; index < taken; index++) {
                due.is("stepPosition(" + index + ") behind step " + taken, x.stepPosition(index), steps[index][1]);
            }
        }
    }

    private static void pairs(long regex, int want) {
        RegexSimplifier x = new RegexSimplifier();
        x.load(regex);
        due.is("applicableCount() of " + regex, x.applicableCount(), want);
        due.is("current() after applicableCount()", x.current(), regex);
    }

    private static void applicablePairs() {
        due.sentence("Promise 20", "Returns the number of such pairs.");
        pairs(3L, 0);
        pairs(634L, 0);
        pairs(613L, 1);
        pairs(611L, 2);
        pairs(81L, 1);
        pairs(881L, 2);
        pairs(711L, 1);
        pairs(712L, 2);
        pairs(6734734L, 3);
        pairs(868384L, 1);
        pairs(888623L, 3);
        pairs(888888888888888883L, 16);
        pairs(888888888888888881L, 17);
        pairs(61613L, 3);
        pairs(627383L, 1);
    }

    private static void objectsApart() {
        due.sentence("Description", "An object holds one current expression");
        RegexSimplifier x = new RegexSimplifier();
        RegexSimplifier y = new RegexSimplifier();
        x.load(613L);
        y.load(883L);
        due.is("apply(0, 0) of one", x.apply(0, 0), 1);
        due.is("apply(5, 0) of the other", y.apply(5, 0), 2);
        state("of one", x, 3L, 0, 0);
        state("of the other", y, 83L, 5, 0);
    }
}
