/** What an object's state is to be: the expressions from the loaded to the current one, and the steps between them. */
final class Model {
    private final long[] expressions;
    private final int[] rules;
    private final int[] positions;

    /** Each step is a rule, a position and the expression behind it. */
    Model(long loaded, long[]... steps) {
        expressions = new long[steps.length + 1];
        rules = new int[steps.length];
        positions = new int[steps.length];
        expressions[0] = loaded;
        for (int index = 0; index < steps.length; index++) {
            rules[index] = (int) steps[index][0];
            positions[index] = (int) steps[index][1];
            expressions[index + 1] = steps[index][2];
        }
    }

    static long[] step(int rule, int position, long behind) {
        return new long[] {rule, position, behind};
    }

    int stepCount() {
        return rules.length;
    }

    long current() {
        return expressions[rules.length];
    }

    String currentText() {
        return Long.toString(current());
    }

    /** Reads the current expression and every step, and looks beside the ends of the list. */
    void check(Due due, String when, RegexSimplifier x) {
        due.is("current() " + when, x.current(), current());
        due.is("stepCount() " + when, x.stepCount(), stepCount());
        for (int index = 0; index < stepCount(); index++) {
            due.is("stepRule(" + index + ") " + when, x.stepRule(index), rules[index]);
            due.is("stepPosition(" + index + ") " + when, x.stepPosition(index), positions[index]);
        }
        due.is("stepRule(stepCount()) " + when, x.stepRule(stepCount()), -5);
        due.is("stepPosition(stepCount()) " + when, x.stepPosition(stepCount()), -5);
        due.is("stepRule(-1) " + when, x.stepRule(-1), -5);
        due.is("stepPosition(-1) " + when, x.stepPosition(-1), -5);
    }

    /** Takes back one step after the other; none is left then. */
    void checkByUndoing(Due due, String when, RegexSimplifier x) {
        for (int left = stepCount() - 1; left >= 0; left--) {
            due.is("undo(1) down to " + left + " " + when, x.undo(1), left);
            due.is("current() of " + left + " " + when, x.current(), expressions[left]);
        }
        due.is("undo(1) of none " + when, x.undo(1), -5);
    }
}
