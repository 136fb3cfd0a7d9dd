import java.util.List;

/**
 * A method that takes an expression; its other arguments are such that the expression is to blame. The document
 * says under the promise's heading that the parameter is an encoded expression.
 */
record Taker(int promise, String parameter, String call, Call made) {
    interface Call {
        long on(RegexSimplifier x, long regex);
    }

    static final List<Taker> ALL = List.of(
        new Taker(2, "regex", "size(%d)", (x, regex) -> x.size(regex)),
        new Taker(3, "regex", "starHeight(%d)", (x, regex) -> x.starHeight(regex)),
        new Taker(4, "regex", "matchesEmptyWord(%d)", (x, regex) -> x.matchesEmptyWord(regex)),
        new Taker(5, "regex", "countWords(%d, 0)", (x, regex) -> x.countWords(regex, 0)),
        new Taker(6, "first", "differenceLength(%d, 3)", (x, regex) -> x.differenceLength(regex, 3L)),
        new Taker(6, "second", "differenceLength(3, %d)", (x, regex) -> x.differenceLength(3L, regex)),
        new Taker(7, "first", "differenceSymbol(%d, 3, 0)", (x, regex) -> x.differenceSymbol(regex, 3L, 0)),
        new Taker(7, "second", "differenceSymbol(3, %d, 0)", (x, regex) -> x.differenceSymbol(3L, regex, 0)),
        new Taker(8, "regex", "isApplicable(%d, 0, 0)", (x, regex) -> x.isApplicable(regex, 0, 0)),
        new Taker(9, "regex", "rewrite(%d, 0, 0)", (x, regex) -> x.rewrite(regex, 0, 0)),
        new Taker(10, "regex", "firstPosition(%d)", (x, regex) -> x.firstPosition(regex)),
        new Taker(11, "regex", "firstRule(%d)", (x, regex) -> x.firstRule(regex)),
        new Taker(12, "regex", "load(%d)", (x, regex) -> x.load(regex)));

    String heading() {
        return "Promise " + promise;
    }

    String callOf(long regex) {
        return String.format(call, regex);
    }

    /** Every method that takes an expression finds each of the numbers malformed. */
    static void allRefuse(Due due, long... numbers) {
        for (long number : numbers) {
            RegexSimplifier x = new RegexSimplifier();
            for (Taker taker : ALL) {
                due.is(taker.callOf(number), taker.made().on(x, number), -1);
            }
        }
    }

    /** No method that takes an expression finds one of the numbers malformed. */
    static void allTake(Due due, long... numbers) {
        for (long number : numbers) {
            RegexSimplifier x = new RegexSimplifier();
            for (Taker taker : ALL) {
                due.holds(taker.callOf(number) + " is not MALFORMED", taker.made().on(x, number) != -1);
            }
            due.is("size(" + number + ")", x.size(number), Long.toString(number).length());
        }
    }
}
