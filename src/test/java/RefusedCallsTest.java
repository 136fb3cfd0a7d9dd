import java.util.ArrayList;
import java.util.List;

/**
 * "An error never changes the state": every refused call of every promise, in states of several kinds; later
 * calls see the state as it was. The calls that answer NONE are among them.
 */
public final class RefusedCallsTest {
    private static final Due due = new Due("RefusedCallsTest");

    private static final long[] MALFORMED = {0L, -3L, 9L, 33L, 63L, 6345L, 630L, 888888888888888888L,
        8888888888888888883L, Long.MIN_VALUE, Long.MAX_VALUE};
    private static final int[] NO_RULES = {-1, 16, Integer.MIN_VALUE, Integer.MAX_VALUE};

    private static final long[] FIRST = Model.step(3, 3, 626283L);
    private static final long[] SECOND = Model.step(15, 0, 6283L);
    private static final long[] THIRD = Model.step(8, 0, 83L);

    interface Call {
        long on(RegexSimplifier x);
    }

    interface Maker {
        RegexSimplifier make();
    }

    record Refused(String promise, String text, long answer, Call call) {
    }

    /** A way to a state, what the state is to be, and what the search answers there. */
    record State(String name, Maker maker, Model model, long smallest, int distance, int reachable) {
    }

    public static void main(String[] args) {
        for (State state : states()) {
            List<Refused> calls = refusedCalls(state.model());
            if (state.smallest() < 0) {
                addRefusedSearches(calls);
            }
            for (Refused refused : calls) {
                stateStaysAfter(state, refused);
            }
            stateStaysAfterAll(state, calls);
        }
        due.end();
    }

    private static List<State> states() {
        return List.of(
            new State("new", RegexSimplifier::new, new Model(1L), 1L, 0, 1),
            new State("loaded", () -> driven(6268283L, 0, 0), new Model(6268283L), 83L, 3, 4),
            new State("a step behind", () -> driven(6268283L, 1, 0), new Model(6268283L, FIRST), 83L, 2, 3),
            new State("simplified", () -> driven(6268283L, 3, 0), new Model(6268283L, FIRST, SECOND, THIRD), 83L, 0, 1),
            new State("a step taken back", () -> driven(6268283L, 3, 1), new Model(6268283L, FIRST, SECOND), 83L, 1, 2),
            new State("all taken back", () -> driven(6268283L, 3, 3), new Model(6268283L), 83L, 3, 4),
            new State("18 digits", () -> driven(888888888888888881L, 0, 0), new Model(888888888888888881L), 2L, 17, 34),
            new State("17 steps", () -> driven(888888888888888881L, 17, 0), seventeenSteps(), 2L, 0, 1),
            new State("over the limit", () -> driven(618681868811L, 1, 0),
                new Model(618681868811L, Model.step(0, 0, 8681868811L)), -6L, -6, -6));
    }

    /** Loads, takes so many of the first applicable steps and then takes the latest of them back. */
    private static RegexSimplifier driven(long regex, int steps, int takenBack) {
        RegexSimplifier x = new RegexSimplifier();
        x.load(regex);
        for (int step = 0; step < steps; step++) {
            x.apply(x.firstRule(x.current()), x.firstPosition(x.current()));
        }
        x.undo(takenBack);
        return x;
    }

    /** Rule 5 takes one star after the other, rule 3 the last one. */
    private static Model seventeenSteps() {
        long[][] steps = new long[17][];
        String text = "888888888888888881";
        for (int step = 0; step < 17; step++) {
            text = step < 16 ? text.substring(1) : "2";
            steps[step] = Model.step(step < 16 ? 5 : 3, 0, Long.parseLong(text));
        }
        return new Model(888888888888888881L, steps);
    }

    private static List<Refused> refusedCalls(Model model) {
        List<Refused> calls = new ArrayList<>();
        addMalformed(calls);
        addPassedIn(calls);
        addRefusedSteps(calls, model);
        addOutOfRange(calls, model.stepCount());
        return calls;
    }

    private static void addMalformed(List<Refused> calls) {
        for (long number : MALFORMED) {
            for (Taker taker : Taker.ALL) {
                calls.add(new Refused(taker.heading(), taker.callOf(number), -1, x -> taker.made().on(x, number)));
            }
        }
    }

    private static void addPassedIn(List<Refused> calls) {
        calls.add(new Refused("Promise 5", "countWords(3, -1)", -5, x -> x.countWords(3L, -1)));
        calls.add(new Refused("Promise 5", "countWords(3, 7)", -5, x -> x.countWords(3L, 7)));
        calls.add(new Refused("Promise 6", "differenceLength(3, 3)", -9, x -> x.differenceLength(3L, 3L)));
        calls.add(new Refused("Promise 7", "differenceSymbol(3, 3, 0)", -9, x -> x.differenceSymbol(3L, 3L, 0)));
        calls.add(new Refused("Promise 7", "differenceSymbol(3, 4, -1)", -5, x -> x.differenceSymbol(3L, 4L, -1)));
        calls.add(new Refused("Promise 7", "differenceSymbol(3, 4, 1)", -5, x -> x.differenceSymbol(3L, 4L, 1)));
        for (int rule : NO_RULES) {
            calls.add(new Refused("Promise 8", "isApplicable(613, " + rule + ", 0)", -2, x -> x.isApplicable(613L, rule, 0)));
            calls.add(new Refused("Promise 9", "rewrite(613, " + rule + ", 0)", -2, x -> x.rewrite(613L, rule, 0)));
        }
        int[] noPositions = {-1, 3, 18, Integer.MIN_VALUE, Integer.MAX_VALUE};
        for (int position : noPositions) {
            calls.add(new Refused("Promise 8", "isApplicable(613, 0, " + position + ")", -3, x -> x.isApplicable(613L, 0, position)));
            calls.add(new Refused("Promise 9", "rewrite(613, 0, " + position + ")", -3, x -> x.rewrite(613L, 0, position)));
        }
        calls.add(new Refused("Promise 9", "rewrite(613, 1, 0)", -4, x -> x.rewrite(613L, 1, 0)));
        calls.add(new Refused("Promise 10", "firstPosition(3)", -9, x -> x.firstPosition(3L)));
        calls.add(new Refused("Promise 11", "firstRule(3)", -9, x -> x.firstRule(3L)));
    }

    /** Every rule at every position where it is not applicable, and what is no rule or no position. */
    private static void addRefusedSteps(List<Refused> calls, Model model) {
        String text = model.currentText();
        for (int rule : NO_RULES) {
            calls.add(new Refused("Promise 14", "apply(" + rule + ", 0)", -2, x -> x.apply(rule, 0)));
            calls.add(new Refused("Promise 14", "apply(" + rule + ", -1)", -2, x -> x.apply(rule, -1)));
        }
        int[] noPositions = {-1, text.length(), 18, Integer.MIN_VALUE, Integer.MAX_VALUE};
        for (int position : noPositions) {
            calls.add(new Refused("Promise 14", "apply(5, " + position + ")", -3, x -> x.apply(5, position)));
        }
        for (int step = 0; step < 16 * text.length(); step++) {
            int rule = step % 16;
            int position = step / 16;
            if (Oracle.rewrite(text, rule, position) == null) {
                calls.add(new Refused("Promise 14", "apply(" + rule + ", " + position + ")", -4, x -> x.apply(rule, position)));
            }
        }
    }

    private static void addOutOfRange(List<Refused> calls, int steps) {
        int[] counts = {-1, steps + 1, 18, Integer.MIN_VALUE, Integer.MAX_VALUE};
        for (int count : counts) {
            calls.add(new Refused("Promise 16", "undo(" + count + ")", -5, x -> x.undo(count)));
        }
        int[] indexes = {-1, steps, 17, Integer.MIN_VALUE, Integer.MAX_VALUE};
        for (int index : indexes) {
            calls.add(new Refused("Promise 18", "stepRule(" + index + ")", -5, x -> x.stepRule(index)));
            calls.add(new Refused("Promise 19", "stepPosition(" + index + ")", -5, x -> x.stepPosition(index)));
        }
    }

    private static void addRefusedSearches(List<Refused> calls) {
        calls.add(new Refused("Promise 21", "smallest()", -6, x -> x.smallest()));
        calls.add(new Refused("Promise 22", "smallestDistance()", -6, x -> x.smallestDistance()));
        calls.add(new Refused("Promise 23", "reachableCount()", -6, x -> x.reachableCount()));
    }

    private static void stateStaysAfter(State state, Refused refused) {
        due.sentence("Description", "An error never changes the state.");
        RegexSimplifier x = state.maker().make();
        String when = "when " + state.name() + " (" + refused.promise() + ")";
        due.is(refused.text() + " " + when, refused.call().on(x), refused.answer());
        checkState(state, "after " + refused.text() + " " + when, x);
    }

    /** One refused call after the other, as many as an object may have with the calls around them. */
    private static void stateStaysAfterAll(State state, List<Refused> calls) {
        due.sentence("Description", "An error never changes the state.");
        for (int from = 0; from < calls.size(); from += 300) {
            RegexSimplifier x = state.maker().make();
            for (Refused refused : calls.subList(from, Math.min(from + 300, calls.size()))) {
                due.is(refused.text() + " in a row when " + state.name(), refused.call().on(x), refused.answer());
            }
            checkState(state, "after a row of refused calls when " + state.name(), x);
        }
    }

    private static void checkState(State state, String when, RegexSimplifier x) {
        String text = state.model().currentText();
        state.model().check(due, when, x);
        due.is("applicableCount() " + when, x.applicableCount(), Oracle.applicableCount(text));
        due.is("smallest() " + when, x.smallest(), state.smallest());
        due.is("smallestDistance() " + when, x.smallestDistance(), state.distance());
        due.is("reachableCount() " + when, x.reachableCount(), state.reachable());
        stepStillWorks(state, when, x);
        state.model().checkByUndoing(due, when, x);
    }

    /** The first applicable step is taken and taken back. */
    private static void stepStillWorks(State state, String when, RegexSimplifier x) {
        String text = state.model().currentText();
        int step = Oracle.firstStep(text);
        if (step < 0) {
            due.is("simplify() " + when, x.simplify(), 0);
            return;
        }
        String result = Oracle.rewrite(text, step % 16, step / 16);
        due.is("apply of the first step " + when, x.apply(step % 16, step / 16), result.length());
        due.is("current() behind it " + when, x.current(), Long.parseLong(result));
        due.is("undo(1) behind it " + when, x.undo(1), state.model().stepCount());
        due.is("current() behind undo(1) " + when, x.current(), state.model().current());
    }
}
