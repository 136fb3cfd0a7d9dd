/** The five examples of the document, each beginning with a new object. */
public final class ExamplesTest {
    private static final Due due = new Due("ExamplesTest");

    public static void main(String[] args) {
        example1();
        example2();
        example3();
        example4();
        example5();
        due.end();
    }

    private static void example1() {
        due.sentence("Description",
            "1. The empty word, or at least one a, is a star of a; the step is taken back: load(627383) = 6; "
                + "applicableCount() = 1; firstPosition(627383) = 0; firstRule(627383) = 12; simplify() = 1; current() = 83; "
                + "stepCount() = 1; stepRule(0) = 12; undo(1) = 0; current() = 627383.");
        RegexSimplifier x = new RegexSimplifier();
        due.is("load(627383)", x.load(627383L), 6);
        due.is("applicableCount()", x.applicableCount(), 1);
        due.is("firstPosition(627383)", x.firstPosition(627383L), 0);
        due.is("firstRule(627383)", x.firstRule(627383L), 12);
        due.is("simplify()", x.simplify(), 1);
        due.is("current()", x.current(), 83);
        due.is("stepCount()", x.stepCount(), 1);
        due.is("stepRule(0)", x.stepRule(0), 12);
        due.is("undo(1)", x.undo(1), 0);
        due.is("current()", x.current(), 627383L);
    }

    private static void example2() {
        due.sentence("Description",
            "2. Errors, in the order in which they are checked: size(63) = -1; isApplicable(63, 16, 0) = -1; "
                + "isApplicable(3, 16, 5) = -2; isApplicable(3, 0, 1) = -3; rewrite(634, 4, 0) = -4; apply(0, 0) = -4.");
        RegexSimplifier x = new RegexSimplifier();
        due.is("size(63)", x.size(63L), -1);
        due.is("isApplicable(63, 16, 0)", x.isApplicable(63L, 16, 0), -1);
        due.is("isApplicable(3, 16, 5)", x.isApplicable(3L, 16, 5), -2);
        due.is("isApplicable(3, 0, 1)", x.isApplicable(3L, 0, 1), -3);
        due.is("rewrite(634, 4, 0)", x.rewrite(634L, 4, 0), -4);
        due.is("apply(0, 0)", x.apply(0, 0), -4);
    }

    private static void example3() {
        due.sentence("Description",
            "3. Two rules that fit the same node, and a rule of which the first left side matches: firstRule(611) = 0; "
                + "rewrite(611, 0, 0) = 1; isApplicable(611, 4, 0) = 1; rewrite(868384, 13, 0) = 86384.");
        RegexSimplifier x = new RegexSimplifier();
        due.is("firstRule(611)", x.firstRule(611L), 0);
        due.is("rewrite(611, 0, 0)", x.rewrite(611L, 0, 0), 1);
        due.is("isApplicable(611, 4, 0)", x.isApplicable(611L, 4, 0), 1);
        due.is("rewrite(868384, 13, 0)", x.rewrite(868384L, 13, 0), 86384L);
    }

    private static void example4() {
        due.sentence("Description",
            "4. The shortest word that tells two expressions apart, if there is one: differenceLength(8634, 68384) = 2; "
                + "differenceSymbol(8634, 68384, 0) = 0; differenceSymbol(8634, 68384, 1) = 1; "
                + "differenceSymbol(8634, 68384, 2) = -5; differenceLength(883, 83) = -9; countWords(8634, 3) = 8.");
        RegexSimplifier x = new RegexSimplifier();
        due.is("differenceLength(8634, 68384)", x.differenceLength(8634L, 68384L), 2);
        due.is("differenceSymbol(8634, 68384, 0)", x.differenceSymbol(8634L, 68384L, 0), 0);
        due.is("differenceSymbol(8634, 68384, 1)", x.differenceSymbol(8634L, 68384L, 1), 1);
        due.is("differenceSymbol(8634, 68384, 2)", x.differenceSymbol(8634L, 68384L, 2), -5);
        due.is("differenceLength(883, 83)", x.differenceLength(883L, 83L), -9);
        due.is("countWords(8634, 3)", x.countWords(8634L, 3), 8);
    }

    private static void example5() {
        due.sentence("Description",
            "5. The smallest expression that can be reached; the current one stays: load(6734735) = 7; "
                + "smallest() = 73645; smallestDistance() = 1; reachableCount() = 2; current() = 6734735.");
        RegexSimplifier x = new RegexSimplifier();
        due.is("load(6734735)", x.load(6734735L), 7);
        due.is("smallest()", x.smallest(), 73645L);
        due.is("smallestDistance()", x.smallestDistance(), 1);
        due.is("reachableCount()", x.reachableCount(), 2);
        due.is("current()", x.current(), 6734735L);
    }
}
