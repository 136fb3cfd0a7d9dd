import java.util.ArrayList;
import java.util.List;
import java.util.Map;
import java.util.Set;

/** Runs of up to 512 calls of all kinds on one object, against a model of the state. */
public final class RunsTest {
    private static final Due due = new Due("RunsTest");
    private static final int CALLS = 512;

    /** The most calls that one turn makes. */
    private static final int CALLS_PER_TURN = 7;

    private final RegexSimplifier x = new RegexSimplifier();
    private final Oracle oracle = new Oracle();
    private final Expressions some;
    private final List<String> before = new ArrayList<>();
    private final List<int[]> steps = new ArrayList<>();
    private String current = "1";
    private String given = "3";

    private RunsTest(long seed) {
        some = new Expressions(seed);
    }

    public static void main(String[] args) {
        for (long seed = 1; seed <= 500; seed++) {
            RunsTest run = new RunsTest(seed);
            for (int turn = 0; turn < CALLS / CALLS_PER_TURN; turn++) {
                run.nextTurn();
            }
        }
        dearestCalls();
        due.end();
    }

    private void nextTurn() {
        switch (some.below(12)) {
            case 0:
                load();
                break;
            case 1:
            case 2:
            case 3:
                apply();
                break;
            case 4:
                undo();
                break;
            case 5:
                if (some.below(4) == 0) {
                    simplify();
                }
                break;
            case 6:
                search();
                break;
            case 7:
                readSteps();
                break;
            case 8:
            case 9:
                passedIn();
                break;
            default:
                readState();
        }
    }

    private void load() {
        String text = some.below(2) == 0 ? some.grown(3 + some.below(16)) : some.ofSize(1 + some.below(18), "12345");
        if (some.below(4) == 0) {
            text = text.substring(1) + some.below(10);
        }
        long regex = Long.parseLong(text);
        boolean valid = Oracle.wellFormed(regex);
        due.is("load(" + regex + ")", x.load(regex), valid ? Long.toString(regex).length() : -1);
        if (valid) {
            current = Long.toString(regex);
            before.clear();
            steps.clear();
        }
    }

    private void apply() {
        int rule = some.below(18) - 1;
        int position = some.below(current.length() + 2) - 1;
        int first = Oracle.firstStep(current);
        if (first >= 0 && some.below(2) == 0) {
            rule = first % 16;
            position = first / 16;
        }
        long want;
        String result = null;
        if (rule < 0 || rule > 15) {
            want = -2;
        } else if (position < 0 || position >= current.length()) {
            want = -3;
        } else {
            result = Oracle.rewrite(current, rule, position);
            want = result == null ? -4 : result.length();
        }
        due.is("apply(" + rule + ", " + position + ") of " + current, x.apply(rule, position), want);
        if (result != null) {
            take(result, rule, position);
        }
    }

    private void take(String result, int rule, int position) {
        before.add(current);
        steps.add(new int[] {rule, position});
        current = result;
    }

    private void undo() {
        int count = some.below(steps.size() + 3) - 1;
        boolean valid = count >= 0 && count <= steps.size();
        due.is("undo(" + count + ")", x.undo(count), valid ? steps.size() - count : -5);
        for (int taken = 0; valid && taken < count; taken++) {
            current = before.remove(before.size() - 1);
            steps.remove(steps.size() - 1);
        }
    }

    private void simplify() {
        int count = 0;
        for (int step = Oracle.firstStep(current); step >= 0; step = Oracle.firstStep(current)) {
            take(Oracle.rewrite(current, step % 16, step / 16), step % 16, step / 16);
            count++;
        }
        due.is("simplify()", x.simplify(), count);
    }

    private void search() {
        Map<String, Integer> met = Oracle.met(current, 61);
        boolean exceeded = met.size() > 60;
        String best = Oracle.smallest(met);
        due.is("smallest() of " + current, x.smallest(), exceeded ? -6 : Long.parseLong(best));
        due.is("smallestDistance() of " + current, x.smallestDistance(), exceeded ? -6 : met.get(best));
        due.is("reachableCount() of " + current, x.reachableCount(), exceeded ? -6 : met.size());
    }

    private void readSteps() {
        int index = some.below(steps.size() + 3) - 1;
        boolean valid = index >= 0 && index < steps.size();
        due.is("stepRule(" + index + ")", x.stepRule(index), valid ? steps.get(index)[0] : -5);
        due.is("stepPosition(" + index + ")", x.stepPosition(index), valid ? steps.get(index)[1] : -5);
    }

    private void readState() {
        due.is("current()", x.current(), Long.parseLong(current));
        due.is("stepCount()", x.stepCount(), steps.size());
        due.is("applicableCount() of " + current, x.applicableCount(), Oracle.applicableCount(current));
    }

    /** Calls that take an expression leave the state alone, whatever they answer. */
    private void passedIn() {
        String last = given;
        given = some.ofSize(1 + some.below(18), "12345");
        long regex = Long.parseLong(given);
        String word = oracle.difference(last, given);
        due.is("differenceLength(" + last + ", " + given + ")", x.differenceLength(Long.parseLong(last), regex), word == null ? -9 : word.length());
        due.is("size(" + given + ")", x.size(regex), given.length());
        due.is("starHeight(" + given + ")", x.starHeight(regex), Oracle.starHeight(given));
        int length = some.below(5);
        due.is("countWords(" + given + ", " + length + ")", x.countWords(regex, length), oracle.countWords(Set.of(given), length));
        int first = Oracle.firstStep(given);
        due.is("firstRule(" + given + ")", x.firstRule(regex), first < 0 ? -9 : first % 16);
        String result = first < 0 ? null : Oracle.rewrite(given, first % 16, first / 16);
        due.is("rewrite of " + given, x.rewrite(regex, first < 0 ? 0 : first % 16, first < 0 ? 0 : first / 16), result == null ? -4 : Long.parseLong(result));
        due.is("size(" + given + "0)", x.size(given.length() < 18 ? regex * 10 : 0L), -1);
    }

    /** The same dear calls again and again give the same answers. */
    private static void dearestCalls() {
        RegexSimplifier x = new RegexSimplifier();
        x.load(6688818811L);
        for (int turn = 0; turn < CALLS / 4 - 1; turn++) {
            due.is("smallest() again", x.smallest(), 2);
            due.is("reachableCount() again", x.reachableCount(), 60);
            due.is("countWords again", x.countWords(866345L, 6), 729);
            due.is("differenceLength again", x.differenceLength(800000000000000000L + 73737373737373733L, 2L), 9);
        }
    }
}
