/** The boundary cases of promises 21 to 23, a method for each sentence; its name begins with the promise. */
public final class Boundaries21To23Test {
    private static final Due due = new Due("Boundaries21To23Test");

    /** The most stars: 17 steps lead to the empty word, through 34 expressions. */
    private static final long LONGEST = 888888888888888881L;

    private static final long[] SIXTY = {6688818811L, 7881868181L, 7886181881L, 6881886811L, 7816881881L};
    private static final long[] SIXTY_ONE = {8681868811L, 8686881811L, 8686818182L, 8866818281L};

    /** 62 and more, some with the answer met long before the 61st expression. */
    private static final long[] MORE = {7878818812L, 8868161881L, 718681868811L, 788186881881L, 8788186881881L};

    public static void main(String[] args) {
        p21AnySequenceOfSteps();
        p21AlsoAnEmptyOne();
        p21BreadthFirst();
        p21PositionsInAscendingOrder();
        p21RulesInAscendingOrder();
        p21MetBeforeIsNotMetAgain();
        p21MetFirstIsTheAnswer();
        p21StopsAtThe61st();
        p21CurrentDoesNotChange();
        p21MoreThan60WithTheCurrentOneCounted();
        p22LeastNumberOfSteps();
        p22LimitExceeded();
        p23WithTheCurrentOneCounted();
        p23LimitExceeded();
        due.end();
    }

    private static RegexSimplifier loaded(long regex) {
        RegexSimplifier x = new RegexSimplifier();
        due.holds("load(" + regex + ") takes it", x.load(regex) > 0);
        return x;
    }

    private static void smallest(long regex, long want) {
        due.is("smallest() of " + regex, loaded(regex).smallest(), want);
    }

    private static void distance(long regex, int want) {
        due.is("smallestDistance() of " + regex, loaded(regex).smallestDistance(), want);
    }

    private static void reachable(long regex, int want) {
        due.is("reachableCount() of " + regex, loaded(regex).reachableCount(), want);
    }

    private static void p21AnySequenceOfSteps() {
        due.sentence("Promise 21",
            "Searches breadth first for the smallest expression that any sequence of steps, also an empty one, makes of the current expression.");
        smallest(613L, 3);
        smallest(6734735L, 73645);
        smallest(LONGEST, 2);
        smallest(888888888888888883L, 83);
        // The way of simplify() ends at 86368384.
        smallest(8683868384L, 8634);
        RegexSimplifier x = loaded(8683868384L);
        x.simplify();
        due.is("smallest() behind simplify()", x.smallest(), 86368384L);
        x.undo(1);
        due.is("smallest() behind undo(1)", x.smallest(), 8634L);
    }

    private static void p21AlsoAnEmptyOne() {
        due.sentence("Promise 21", "also an empty one");
        due.is("smallest() of a new object", new RegexSimplifier().smallest(), 1);
        long[] expressions = {1L, 2L, 5L, 83L, 634L, 73645L, 8634L, 737373737373737383L};
        for (long regex : expressions) {
            smallest(regex, regex);
            distance(regex, 0);
            reachable(regex, 1);
        }
    }

    /** Depth first, 64734 is met before 76234. */
    private static void p21BreadthFirst() {
        due.sentence("Promise 21", "Searches breadth first");
        smallest(661724667241734L, 76234);
        distance(661724667241734L, 4);
        smallest(67626246317266311L, 7662423);
        distance(67626246317266311L, 4);
    }

    /** Rule 11 at 0 makes the answer; rule 2 at 1 or 4 makes another one of its size. */
    private static void p21PositionsInAscendingOrder() {
        due.sentence("Promise 21", "An expression is expanded by trying its positions in ascending order");
        smallest(6723733L, 76233);
        smallest(6724734L, 76234);
        smallest(6732734L, 73624);
        smallest(86742744L, 874624);
    }

    /** With the rules in descending order 76323, 73623 and 76233 come first. */
    private static void p21RulesInAscendingOrder() {
        due.sentence("Promise 21", "and at each position the rules in ascending order");
        smallest(6673373372633L, 67333);
        smallest(667382738276333L, 63733);
        smallest(726672372373633L, 63733);
    }

    private static void p21MetBeforeIsNotMetAgain() {
        due.sentence("Promise 21", "a result that was met before is not met again");
        reachable(61613L, 3);
        reachable(888888888888888883L, 17);
        reachable(LONGEST, 34);
        smallest(LONGEST, 2);
        for (long regex : SIXTY) {
            reachable(regex, 60);
        }
    }

    private static void p21MetFirstIsTheAnswer() {
        due.sentence("Promise 21", "If several expressions of the smallest size are met, the one that was met first is the answer.");
        smallest(6723733L, 76233);
        smallest(6733723L, 76323);
        smallest(67337382L, 73632);
        smallest(67447824L, 76424);
        smallest(8673725673576332L, 867353);
        smallest(677626242572655L, 6762455);
    }

    private static void p21StopsAtThe61st() {
        due.sentence("Promise 21", "The search stops with an error as soon as it meets a 61st expression.");
        for (long regex : SIXTY_ONE) {
            smallest(regex, -6);
        }
        for (long regex : MORE) {
            smallest(regex, -6);
        }
        // The answer of 718681868811 would be the second expression that is met.
        due.is("rewrite(718681868811, 1, 0)", new RegexSimplifier().rewrite(718681868811L, 1, 0), 1);
    }

    private static void p21CurrentDoesNotChange() {
        due.sentence("Promise 21", "The current expression does not change.");
        Model model = new Model(6268283L, Model.step(3, 3, 626283L));
        RegexSimplifier x = loaded(6268283L);
        x.apply(3, 3);
        due.is("smallest()", x.smallest(), 83);
        model.check(due, "after smallest()", x);
        due.is("smallestDistance()", x.smallestDistance(), 2);
        model.check(due, "after smallestDistance()", x);
        due.is("reachableCount()", x.reachableCount(), 3);
        model.check(due, "after reachableCount()", x);
        due.is("smallest() again", x.smallest(), 83);
        model.checkByUndoing(due, "after the searches", x);
    }

    private static void p21MoreThan60WithTheCurrentOneCounted() {
        due.sentence("Promise 21", "LIMIT_EXCEEDED if more than 60 expressions are met, with the current one counted");
        smallest(87268681821L, 2);
        for (long regex : SIXTY) {
            smallest(regex, 2);
        }
        for (long regex : SIXTY_ONE) {
            smallest(regex, -6);
        }
        for (long regex : MORE) {
            smallest(regex, -6);
        }
        // One object, from over the limit to below it and back.
        RegexSimplifier x = loaded(618681868811L);
        due.is("smallest() over the limit", x.smallest(), -6);
        x.load(6688818811L);
        due.is("smallest() at the limit", x.smallest(), 2);
        x.load(8681868811L);
        due.is("smallest() over the limit by one", x.smallest(), -6);
        x.apply(3, 2);
        due.is("smallest() a step further", x.smallest(), 2);
        x.undo(1);
        due.is("smallest() after undo", x.smallest(), -6);
    }

    private static void p22LeastNumberOfSteps() {
        due.sentence("Promise 22", "Returns the least number of steps by which the search of smallest() comes to its answer.");
        due.is("smallestDistance() of a new object", new RegexSimplifier().smallestDistance(), 0);
        distance(73645L, 0);
        distance(613L, 1);
        distance(6734735L, 1);
        distance(6734734L, 1);
        distance(888888888888888883L, 16);
        distance(LONGEST, 17);
        // simplify() takes four steps to the same answer.
        distance(78711713L, 2);
        distance(86816381L, 3);
        RegexSimplifier x = loaded(78711713L);
        due.is("simplify() of 78711713", x.simplify(), 4);
        due.is("current() behind it", x.current(), 1);
        due.is("smallestDistance() behind it", x.smallestDistance(), 0);
    }

    private static void p22LimitExceeded() {
        due.sentence("Promise 22", "Returns that number of steps; LIMIT_EXCEEDED as for smallest().");
        distance(6688818811L, 5);
        distance(7881868181L, 4);
        distance(7816881881L, 4);
        for (long regex : SIXTY_ONE) {
            distance(regex, -6);
        }
        for (long regex : MORE) {
            distance(regex, -6);
        }
    }

    private static void p23WithTheCurrentOneCounted() {
        due.sentence("Promise 23",
            "Returns how many expressions the search of smallest() meets, with the current one counted.");
        due.is("reachableCount() of a new object", new RegexSimplifier().reachableCount(), 1);
        reachable(73645L, 1);
        reachable(613L, 2);
        reachable(6734735L, 2);
        reachable(6734734L, 4);
        reachable(888888888888888883L, 17);
        reachable(LONGEST, 34);
        reachable(87268681821L, 59);
        for (long regex : SIXTY) {
            reachable(regex, 60);
        }
    }

    private static void p23LimitExceeded() {
        due.sentence("Promise 23", "Returns that number; LIMIT_EXCEEDED as for smallest().");
        for (long regex : SIXTY_ONE) {
            reachable(regex, -6);
            due.is("the oracle's count of " + regex, Oracle.met(Long.toString(regex), 99).size(), 61);
        }
        for (long regex : MORE) {
            reachable(regex, -6);
        }
    }
}
