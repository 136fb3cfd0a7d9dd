/** The five examples of the document, each beginning with a new object. */
public final class ExamplesTest {
    private static final Due due = new Due("ExamplesTest");

    public static void main(String[] args) {
        example1();
        example2();
        example3();
        example4();
        example5();
        due.end();
    }

    private static void example1() {
        RegexSimplifier x = new RegexSimplifier();
        due.is("1: load(627383)", x.load(627383L), 6);
        due.is("1: applicableCount()", x.applicableCount(), 1);
        due.is("1: firstPosition(627383)", x.firstPosition(627383L), 0);
        due.is("1: firstRule(627383)", x.firstRule(627383L), 12);
        due.is("1: simplify()", x.simplify(), 1);
        due.is("1: current()", x.current(), 83);
        due.is("1: stepCount()", x.stepCount(), 1);
        due.is("1: stepRule(0)", x.stepRule(0), 12);
        due.is("1: undo(1)", x.undo(1), 0);
        due.is("1: current()", x.current(), 627383L);
    }

    private static void example2() {
        RegexSimplifier x = new RegexSimplifier();
        due.is("2: size(63)", x.size(63L), -1);
        due.is("2: isApplicable(63, 16, 0)", x.isApplicable(63L, 16, 0), -1);
        due.is("2: isApplicable(3, 16, 5)", x.isApplicable(3L, 16, 5), -2);
        due.is("2: isApplicable(3, 0, 1)", x.isApplicable(3L, 0, 1), -3);
        due.is("2: rewrite(634, 4, 0)", x.rewrite(634L, 4, 0), -4);
        due.is("2: apply(0, 0)", x.apply(0, 0), -4);
    }

    private static void example3() {
        RegexSimplifier x = new RegexSimplifier();
        due.is("3: firstRule(611)", x.firstRule(611L), 0);
        due.is("3: rewrite(611, 0, 0)", x.rewrite(611L, 0, 0), 1);
        due.is("3: isApplicable(611, 4, 0)", x.isApplicable(611L, 4, 0), 1);
        due.is("3: rewrite(868384, 13, 0)", x.rewrite(868384L, 13, 0), 86384L);
    }

    private static void example4() {
        RegexSimplifier x = new RegexSimplifier();
        due.is("4: differenceLength(8634, 68384)", x.differenceLength(8634L, 68384L), 2);
        due.is("4: differenceSymbol(8634, 68384, 0)", x.differenceSymbol(8634L, 68384L, 0), 0);
        due.is("4: differenceSymbol(8634, 68384, 1)", x.differenceSymbol(8634L, 68384L, 1), 1);
        due.is("4: differenceSymbol(8634, 68384, 2)", x.differenceSymbol(8634L, 68384L, 2), -5);
        due.is("4: differenceLength(883, 83)", x.differenceLength(883L, 83L), -9);
        due.is("4: countWords(8634, 3)", x.countWords(8634L, 3), 8);
    }

    private static void example5() {
        RegexSimplifier x = new RegexSimplifier();
        due.is("5: load(6734735)", x.load(6734735L), 7);
        due.is("5: smallest()", x.smallest(), 73645L);
        due.is("5: smallestDistance()", x.smallestDistance(), 1);
        due.is("5: reachableCount()", x.reachableCount(), 2);
        due.is("5: current()", x.current(), 6734735L);
    }
}
