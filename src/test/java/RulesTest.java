/** Promises 8 to 11: the 16 rules on expressions that are passed in. */
public final class RulesTest {
    private static final Due due = new Due("RulesTest");

    /** The rows of the table: the rule, its left sides and its right side. */
    private static final String[] TABLE = {
        "0 F|x, x|F x",
        "1 Fx, xF F",
        "2 Ex, xE x",
        "3 F*, E* E",
        "4 x|x x",
        "5 (x*)* x*",
        "6 (E|x)*, (x|E)* x*",
        "7 x*x* x*",
        "8 E|x*, x*|E x*",
        "9 x|x*, x*|x x*",
        "10 (xy)|(xz) x(y|z)",
        "11 (xz)|(yz) (x|y)z",
        "12 E|(xx*), E|(x*x), (xx*)|E, (x*x)|E x*",
        "13 (x*|y)*, (x|y*)* (x|y)*",
        "14 (x*y*)* (x|y)*",
        "15 x|(x|y), x|(y|x) x|y",
    };

    public static void main(String[] args) {
        sixteenRules();
        emptySetAndEmptyWord();
        concatenationAndUnion();
        everyLeftSide();
        leftSideOrder();
        exampleOfTheOrder();
        almostLeftSides();
        everyLeftSideWithLargerParts();
        innerPositions();
        everyRuleAtEveryPosition();
        firstSteps();
        due.end();
    }

    private static void row(int rule) {
        due.sentence("Description", TABLE[rule]);
    }

    private static void fits(int rule, String text, int position, String result) {
        RegexSimplifier x = new RegexSimplifier();
        long regex = Long.parseLong(text);
        String where = "(" + text + ", " + rule + ", " + position + ")";
        due.is("isApplicable" + where, x.isApplicable(regex, rule, position), 1);
        due.is("rewrite" + where, x.rewrite(regex, rule, position), Long.parseLong(result));
    }

    private static void fitsNot(int rule, String text, int position) {
        RegexSimplifier x = new RegexSimplifier();
        long regex = Long.parseLong(text);
        String where = "(" + text + ", " + rule + ", " + position + ")";
        due.is("isApplicable" + where, x.isApplicable(regex, rule, position), 0);
        due.is("rewrite" + where, x.rewrite(regex, rule, position), -4);
    }

    private static void sixteenRules() {
        due.sentence("Description", "There are 16 rewrite rules.");
        for (int fitting = 0; fitting < 16; fitting++) {
            long regex = Expressions.ONE_RULE[fitting];
            for (int rule = -1; rule <= 16; rule++) {
                String call = "isApplicable(" + regex + ", " + rule + ", 0)";
                int want = rule == fitting ? 1 : rule < 0 || rule > 15 ? -2 : 0;
                due.is(call, new RegexSimplifier().isApplicable(regex, rule, 0), want);
            }
        }
    }

    /** What matches no word, or the empty word alone, but is encoded otherwise does not count. */
    private static void emptySetAndEmptyWord() {
        due.sentence("Description", "F is the empty set (encoded as 1) and E is the empty word (encoded as 2)");
        for (String other : new String[] {"1", "2", "3", "4", "5", "713", "81", "722"}) {
            fitsOnlyIf(other.equals("1"), 0, "6" + other + "4");
            fitsOnlyIf(other.equals("1"), 0, "64" + other);
            fitsOnlyIf(other.equals("1"), 1, "7" + other + "4");
            fitsOnlyIf(other.equals("1"), 1, "74" + other);
            fitsOnlyIf(other.equals("2"), 2, "7" + other + "4");
            fitsOnlyIf(other.equals("2"), 2, "74" + other);
            fitsOnlyIf(other.equals("1") || other.equals("2"), 3, "8" + other);
            fitsOnlyIf(other.equals("2"), 6, "86" + other + "4");
            fitsOnlyIf(other.equals("2"), 6, "864" + other);
            fitsOnlyIf(other.equals("2"), 8, "6" + other + "84");
            fitsOnlyIf(other.equals("2"), 8, "684" + other);
            fitsOnlyIf(other.equals("2"), 12, "6" + other + "7484");
            fitsOnlyIf(other.equals("2"), 12, "67484" + other);
        }
        fits(1, "713", 0, "1");
        fits(3, "81", 0, "2");
        fits(3, "82", 0, "2");
    }

    private static void fitsOnlyIf(boolean fits, int rule, String text) {
        String call = "isApplicable(" + text + ", " + rule + ", 0)";
        due.is(call, new RegexSimplifier().isApplicable(Long.parseLong(text), rule, 0), fits ? 1 : 0);
    }

    /** Each left side, and the same with one operator taken for the other. */
    private static void concatenationAndUnion() {
        due.sentence("Description", "xy is a concatenation and x|y a union");
        for (int rule = 0; rule < 16; rule++) {
            String[] sides = Oracle.RULES[rule];
            for (int side = 0; side < sides.length - 1; side++) {
                String text = filled(sides[side], new String[] {"3", "4", "5"});
                fits(rule, text, 0, filled(sides[sides.length - 1], new String[] {"3", "4", "5"}));
                for (int at = 0; at < text.length(); at++) {
                    char digit = text.charAt(at);
                    if (digit == '6' || digit == '7') {
                        char other = digit == '6' ? '7' : '6';
                        fitsNot(rule, text.substring(0, at) + other + text.substring(at + 1), 0);
                    }
                }
            }
        }
    }

    private static void exampleOfTheOrder() {
        due.sentence("Description", "For example, rule 13 rewrites (a*|b*)* to (a|b*)*, because its first left side matches "
            + "with x = a and y = b*.");
        fits(13, "868384", 0, "86384");
        fits(13, "868483", 0, "86483");
        fits(13, "7868384868384", 7, "786838486384");
    }

    private static void everyLeftSide() {
        row(0);
        fits(0, "613", 0, "3");
        fits(0, "631", 0, "3");
        row(1);
        fits(1, "713", 0, "1");
        fits(1, "731", 0, "1");
        row(2);
        fits(2, "723", 0, "3");
        fits(2, "732", 0, "3");
        row(3);
        fits(3, "81", 0, "2");
        fits(3, "82", 0, "2");
        row(4);
        fits(4, "633", 0, "3");
        row(5);
        fits(5, "883", 0, "83");
        row(6);
        fits(6, "8623", 0, "83");
        fits(6, "8632", 0, "83");
        row(7);
        fits(7, "78383", 0, "83");
        row(8);
        fits(8, "6283", 0, "83");
        fits(8, "6832", 0, "83");
        row(9);
        fits(9, "6383", 0, "83");
        fits(9, "6833", 0, "83");
        row(10);
        fits(10, "6734735", 0, "73645");
        row(11);
        fits(11, "6735745", 0, "76345");
        row(12);
        fits(12, "627383", 0, "83");
        fits(12, "627833", 0, "83");
        fits(12, "673832", 0, "83");
        fits(12, "678332", 0, "83");
        row(13);
        fits(13, "86834", 0, "8634");
        fits(13, "86384", 0, "8634");
        row(14);
        fits(14, "878384", 0, "8634");
        row(15);
        fits(15, "63634", 0, "634");
        fits(15, "63643", 0, "634");
    }

    /** Where two left sides of a rule match and their results differ, the first one counts. */
    private static void leftSideOrder() {
        due.sentence("Description",
            "Where a rule has several left sides, they are tried in the order given and the first one that matches is used.");
        fits(13, "868384", 0, "86384");
        fits(13, "8688384", 0, "868384");
        fits(13, "8683883", 0, "863883");
        fits(0, "611", 0, "1");
        fits(1, "711", 0, "1");
        fits(2, "722", 0, "2");
        fits(6, "8622", 0, "82");
        fits(15, "63633", 0, "633");
        fits(4, "611", 0, "1");
        fits(15, "61611", 0, "611");
    }

    private static void almostLeftSides() {
        row(0);
        fitsNot(0, "623", 0);
        fitsNot(0, "713", 0);
        fitsNot(0, "6813", 0);
        row(1);
        fitsNot(1, "723", 0);
        fitsNot(1, "613", 0);
        row(2);
        fitsNot(2, "713", 0);
        fitsNot(2, "623", 0);
        row(3);
        fitsNot(3, "83", 0);
        fitsNot(3, "881", 0);
        fitsNot(3, "8612", 0);
        row(4);
        fitsNot(4, "634", 0);
        fitsNot(4, "733", 0);
        fitsNot(4, "6634643", 0);
        row(5);
        fitsNot(5, "8633", 0);
        fitsNot(5, "83", 0);
        row(6);
        fitsNot(6, "8634", 0);
        fitsNot(6, "8723", 0);
        fitsNot(6, "623", 0);
        fitsNot(6, "8613", 0);
        row(7);
        fitsNot(7, "78384", 0);
        fitsNot(7, "733", 0);
        fitsNot(7, "7383", 0);
        fitsNot(7, "7833", 0);
        fitsNot(7, "68383", 0);
        fitsNot(7, "7873483", 0);
        row(8);
        fitsNot(8, "6183", 0);
        fitsNot(8, "623", 0);
        fitsNot(8, "7283", 0);
        fitsNot(8, "68384", 0);
        row(9);
        fitsNot(9, "6384", 0);
        fitsNot(9, "7383", 0);
        fitsNot(9, "68383", 0);
        row(10);
        fitsNot(10, "6735745", 0);
        fitsNot(10, "7734735", 0);
        fitsNot(10, "6634635", 0);
        fitsNot(10, "6734635", 0);
        fitsNot(10, "6634735", 0);
        row(11);
        fitsNot(11, "6734735", 0);
        fitsNot(11, "6635645", 0);
        fitsNot(11, "6735645", 0);
        fitsNot(11, "6635745", 0);
        fitsNot(11, "7735745", 0);
        row(12);
        fitsNot(12, "627384", 0);
        fitsNot(12, "627834", 0);
        fitsNot(12, "673842", 0);
        fitsNot(12, "678342", 0);
        fitsNot(12, "626383", 0);
        fitsNot(12, "617383", 0);
        fitsNot(12, "673831", 0);
        fitsNot(12, "637383", 0);
        fitsNot(12, "727383", 0);
        fitsNot(12, "62733", 0);
        fitsNot(12, "6278383", 0);
        row(13);
        fitsNot(13, "8634", 0);
        fitsNot(13, "87834", 0);
        fitsNot(13, "68384", 0);
        row(14);
        fitsNot(14, "868384", 0);
        fitsNot(14, "87834", 0);
        fitsNot(14, "87384", 0);
        fitsNot(14, "78384", 0);
        row(15);
        fitsNot(15, "63645", 0);
        fitsNot(15, "66343", 0);
        fitsNot(15, "66334", 0);
        fitsNot(15, "63734", 0);
        fitsNot(15, "73634", 0);
        for (int rule = 0; rule < 16; rule++) {
            row(rule);
            for (int leaf = 1; leaf <= 5; leaf++) {
                fitsNot(rule, Integer.toString(leaf), 0);
            }
        }
    }

    /** Every left side of every rule with parts of several sizes, behind, in front of and under others. */
    private static void everyLeftSideWithLargerParts() {
        String[][] parts = {{"3", "734", "85"}, {"84", "5", "634"}, {"1", "2", "83"}, {"645", "3", "4"}, {"734", "84", "3"}};
        for (int rule = 0; rule < 16; rule++) {
            row(rule);
            String[] sides = Oracle.RULES[rule];
            for (int side = 0; side < sides.length - 1; side++) {
                for (String[] part : parts) {
                    String text = filled(sides[side], part);
                    String result = Oracle.atRoot(text, rule);
                    fitsIfShort(rule, text, "", "", result);
                    fitsIfShort(rule, text, "8", "", result);
                    fitsIfShort(rule, text, "65", "", result);
                    fitsIfShort(rule, text, "6", "5", result);
                    fitsIfShort(rule, text, "786358", "", result);
                    fitsIfShort(rule, text, "76", "584", result);
                }
            }
        }
    }

    private static String filled(String side, String[] part) {
        return side.replace("x", part[0]).replace("y", part[1]).replace("z", part[2]);
    }

    private static void fitsIfShort(int rule, String text, String front, String back, String result) {
        String whole = front + text + back;
        if (whole.length() <= 18) {
            fits(rule, whole, front.length(), front + result + back);
        }
    }

    private static void innerPositions() {
        due.sentence("Promise 9", "Applies a rule to an expression that is passed in");
        fits(5, "888888888888888883", 0, "88888888888888883");
        fits(5, "888888888888888883", 15, "88888888888888883");
        fitsNot(5, "888888888888888883", 16);
        fitsNot(5, "888888888888888883", 17);
        fits(3, "881", 1, "82");
        fits(0, "66134", 1, "634");
        fits(0, "64613", 2, "643");
        fits(1, "667137545", 2, "6617545");
    }

    /** The steps are given as a rule and a position each; no other rule is applicable at any position. */
    private static void everyRuleAtEveryPosition() {
        due.sentence("Promise 8", "Tells whether a rule is applicable at a position of an expression.");
        stepsOf("3");
        stepsOf("73645");
        stepsOf("611", 0, 0, 4, 0);
        stepsOf("881", 5, 0, 3, 1);
        stepsOf("6734734", 4, 0, 10, 0, 11, 0);
        stepsOf("7868384613", 13, 1, 0, 7);
        stepsOf("6268283", 3, 3);
        stepsOf("626283", 15, 0, 8, 2);
        stepsOf("86283", 6, 0, 13, 0, 8, 1);
        stepsOf("66383713", 9, 1, 1, 5);
    }

    private static void stepsOf(String text, int... steps) {
        for (int position = 0; position < text.length(); position++) {
            for (int rule = 0; rule < 16; rule++) {
                int want = 0;
                for (int step = 0; step < steps.length; step += 2) {
                    want = steps[step] == rule && steps[step + 1] == position ? 1 : want;
                }
                String call = "isApplicable(" + text + ", " + rule + ", " + position + ")";
                due.is(call, new RegexSimplifier().isApplicable(Long.parseLong(text), rule, position), want);
            }
        }
    }

    private static void first(String text, int position, int rule) {
        RegexSimplifier x = new RegexSimplifier();
        due.sentence("Promise 10", "Returns the position of the first applicable step:");
        due.is("firstPosition(" + text + ")", x.firstPosition(Long.parseLong(text)), position);
        due.sentence("Promise 11", "Returns the rule of the first applicable step:");
        due.is("firstRule(" + text + ")", x.firstRule(Long.parseLong(text)), rule);
    }

    private static void firstSteps() {
        first("1", -9, -9);
        first("3", -9, -9);
        first("83", -9, -9);
        first("73645", -9, -9);
        first("66666666333333333", 7, 4);
        first("611", 0, 0);
        first("622", 0, 4);
        first("712", 0, 1);
        first("721", 0, 1);
        first("722", 0, 2);
        first("68383", 0, 4);
        first("63633", 0, 15);
        first("6734734", 0, 4);
        first("8881", 0, 5);
        first("881", 0, 5);
        first("7381", 2, 3);
        first("63613", 0, 15);
        first("64613", 2, 0);
        first("6734613", 4, 0);
        first("62868384", 0, 8);
        first("7868384613", 1, 13);
        first("66838384", 1, 4);
        first("888888888888888883", 0, 5);
        first("766666633333348881", 6, 4);
    }
}
