import java.util.List;
import java.util.Map;
import java.util.Set;

/** Every promise against the oracle, on all small expressions and on a long row of larger ones. */
public final class OracleTest {
    private static final Due due = new Due("OracleTest");
    private static final Oracle oracle = new Oracle();

    public static void main(String[] args) {
        everySmallNumber();
        everySmallExpression();
        largerExpressions();
        pairs();
        due.end();
    }

    private static void everySmallNumber() {
        RegexSimplifier x = new RegexSimplifier();
        for (long number = -1000; number < 200_000; number++) {
            // Nothing is promised of an object after its 512th call.
            x = number % 512 == 0 ? new RegexSimplifier() : x;
            int want = Oracle.wellFormed(number) ? Long.toString(number).length() : -1;
            due.is("size(" + number + ")", x.size(number), want);
        }
    }

    private static void everySmallExpression() {
        for (List<String> ofSize : Expressions.allUpTo(6, "12345")) {
            for (String text : ofSize) {
                compareWords(text, 3);
                compareSteps(text);
            }
        }
        for (List<String> ofSize : Expressions.allUpTo(8, "23")) {
            for (String text : ofSize) {
                compareWords(text, 4);
                compareSteps(text);
            }
        }
    }

    private static void largerExpressions() {
        Expressions some = new Expressions(1);
        for (int round = 0; round < 3000; round++) {
            String text = some.ofSize(1 + some.below(18), round % 2 == 0 ? "12345" : "2334");
            compareWords(text, 6);
            compareSteps(text);
            compareSteps(some.grown(7 + some.below(12)));
        }
    }

    private static void compareWords(String text, int longest) {
        RegexSimplifier x = new RegexSimplifier();
        long regex = Long.parseLong(text);
        due.is("size(" + text + ")", x.size(regex), text.length());
        due.is("starHeight(" + text + ")", x.starHeight(regex), Oracle.starHeight(text));
        due.is("matchesEmptyWord(" + text + ")", x.matchesEmptyWord(regex), Oracle.matchesEmptyWord(text) ? 1 : 0);
        for (int length = 0; length <= longest; length++) {
            String call = "countWords(" + text + ", " + length + ")";
            due.is(call, x.countWords(regex, length), oracle.countWords(Set.of(text), length));
        }
    }

    private static void compareSteps(String text) {
        RegexSimplifier x = new RegexSimplifier();
        long regex = Long.parseLong(text);
        for (int step = 0; step < 16 * text.length(); step++) {
            x = step == 16 * 9 ? new RegexSimplifier() : x;
            String result = Oracle.rewrite(text, step % 16, step / 16);
            String where = "(" + text + ", " + step % 16 + ", " + step / 16 + ")";
            due.is("isApplicable" + where, x.isApplicable(regex, step % 16, step / 16), result == null ? 0 : 1);
            due.is("rewrite" + where, x.rewrite(regex, step % 16, step / 16), result == null ? -4 : Long.parseLong(result));
        }
        int first = Oracle.firstStep(text);
        due.is("firstPosition(" + text + ")", x.firstPosition(regex), first < 0 ? -9 : first / 16);
        due.is("firstRule(" + text + ")", x.firstRule(regex), first < 0 ? -9 : first % 16);
        due.is("load(" + text + ")", x.load(regex), text.length());
        due.is("applicableCount() of " + text, x.applicableCount(), Oracle.applicableCount(text));
        compareSearch(x, text);
        compareSimplified(x, text);
    }

    private static void compareSearch(RegexSimplifier x, String text) {
        Map<String, Integer> met = Oracle.met(text, 61);
        boolean exceeded = met.size() > 60;
        String best = Oracle.smallest(met);
        due.is("smallest() of " + text, x.smallest(), exceeded ? -6 : Long.parseLong(best));
        due.is("smallestDistance() of " + text, x.smallestDistance(), exceeded ? -6 : met.get(best));
        due.is("reachableCount() of " + text, x.reachableCount(), exceeded ? -6 : met.size());
        due.is("current() after the search of " + text, x.current(), Long.parseLong(text));
    }

    private static void compareSimplified(RegexSimplifier x, String text) {
        int taken = x.simplify();
        String at = text;
        int count = 0;
        for (int step = Oracle.firstStep(at); step >= 0; step = Oracle.firstStep(at)) {
            due.is("stepRule(" + count + ") of " + text, x.stepRule(count), step % 16);
            due.is("stepPosition(" + count + ") of " + text, x.stepPosition(count), step / 16);
            at = Oracle.rewrite(at, step % 16, step / 16);
            count++;
        }
        due.is("simplify() of " + text, taken, count);
        due.is("stepCount() of " + text, x.stepCount(), count);
        due.is("current() after simplify() of " + text, x.current(), Long.parseLong(at));
        due.is("differenceLength() of " + text + " and " + at, x.differenceLength(Long.parseLong(text), x.current()), -9);
        due.is("undo(all) of " + text, x.undo(count), 0);
        due.is("current() after undo(all)", x.current(), Long.parseLong(text));
    }

    private static void pairs() {
        Expressions some = new Expressions(2);
        String[] leaves = {"3", "34", "345", "12345", "3334"};
        for (int round = 0; round < 20_000; round++) {
            String over = leaves[some.below(leaves.length)];
            int size = 1 + some.below(18);
            String first = some.ofSize(size, over);
            String second = some.below(3) == 0 ? some.ofSize(1 + some.below(18), over) : changed(some, first);
            compareDifference(first, second);
        }
    }

    /** One leaf is another, so that the difference is often far from the words' beginning. */
    private static String changed(Expressions some, String text) {
        StringBuilder result = new StringBuilder(text);
        for (int tries = 0; tries < 40; tries++) {
            int at = some.below(text.length());
            if (text.charAt(at) <= '5') {
                result.setCharAt(at, (char) ('1' + some.below(5)));
                return result.toString();
            }
        }
        return text;
    }

    private static void compareDifference(String first, String second) {
        RegexSimplifier x = new RegexSimplifier();
        String word = oracle.difference(first, second);
        long one = Long.parseLong(first);
        long two = Long.parseLong(second);
        String call = "(" + first + ", " + second + ")";
        due.is("differenceLength" + call, x.differenceLength(one, two), word == null ? -9 : word.length());
        int length = word == null ? 0 : word.length();
        for (int index = 0; index < length; index++) {
            due.is("differenceSymbol" + call + " " + index, x.differenceSymbol(one, two, index), word.charAt(index) - '0');
        }
        due.is("differenceSymbol" + call + " behind", x.differenceSymbol(one, two, length), word == null ? -9 : -5);
        due.is("differenceSymbol" + call + " in front", x.differenceSymbol(one, two, -1), word == null ? -9 : -5);
    }
}
