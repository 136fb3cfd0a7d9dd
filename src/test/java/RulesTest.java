/** Promises 8 to 11: the 16 rules on expressions that are passed in. */
public final class RulesTest {
    private static final Due due = new Due("RulesTest");

    public static void main(String[] args) {
        everyLeftSide();
        leftSideOrder();
        almostLeftSides();
        everyLeftSideWithLargerParts();
        innerPositions();
        firstSteps();
        due.end();
    }

    private static void fits(int rule, String text, int position, String result) {
        RegexSimplifier x = new RegexSimplifier();
        long regex = Long.parseLong(text);
        String where = "(" + text + ", " + rule + ", " + position + ")";
        due.is("isApplicable" + where, x.isApplicable(regex, rule, position), 1);
        due.is("rewrite" + where, x.rewrite(regex, rule, position), Long.parseLong(result));
    }

    private static void fitsNot(int rule, String text, int position) {
        RegexSimplifier x = new RegexSimplifier();
        long regex = Long.parseLong(text);
        String where = "(" + text + ", " + rule + ", " + position + ")";
        due.is("isApplicable" + where, x.isApplicable(regex, rule, position), 0);
        due.is("rewrite" + where, x.rewrite(regex, rule, position), -4);
    }

    private static void everyLeftSide() {
        fits(0, "613", 0, "3");
        fits(0, "631", 0, "3");
        fits(1, "713", 0, "1");
        fits(1, "731", 0, "1");
        fits(2, "723", 0, "3");
        fits(2, "732", 0, "3");
        fits(3, "81", 0, "2");
        fits(3, "82", 0, "2");
        fits(4, "633", 0, "3");
        fits(5, "883", 0, "83");
        fits(6, "8623", 0, "83");
        fits(6, "8632", 0, "83");
        fits(7, "78383", 0, "83");
        fits(8, "6283", 0, "83");
        fits(8, "6832", 0, "83");
        fits(9, "6383", 0, "83");
        fits(9, "6833", 0, "83");
        fits(10, "6734735", 0, "73645");
        fits(11, "6735745", 0, "76345");
        fits(12, "627383", 0, "83");
        fits(12, "627833", 0, "83");
        fits(12, "673832", 0, "83");
        fits(12, "678332", 0, "83");
        fits(13, "86834", 0, "8634");
        fits(13, "86384", 0, "8634");
        fits(14, "878384", 0, "8634");
        fits(15, "63634", 0, "634");
        fits(15, "63643", 0, "634");
    }

    /** Where two left sides of a rule match and their results differ, the first one counts. */
    private static void leftSideOrder() {
        fits(13, "868384", 0, "86384");
        fits(13, "8688384", 0, "868384");
        fits(13, "8683883", 0, "863883");
        fits(0, "611", 0, "1");
        fits(1, "711", 0, "1");
        fits(2, "722", 0, "2");
        fits(6, "8622", 0, "82");
        fits(15, "63633", 0, "633");
        fits(4, "611", 0, "1");
        fits(15, "61611", 0, "611");
    }

    private static void almostLeftSides() {
        fitsNot(0, "623", 0);
        fitsNot(0, "713", 0);
        fitsNot(0, "6813", 0);
        fitsNot(1, "723", 0);
        fitsNot(1, "613", 0);
        fitsNot(2, "713", 0);
        fitsNot(2, "623", 0);
        fitsNot(3, "83", 0);
        fitsNot(3, "881", 0);
        fitsNot(3, "8612", 0);
        fitsNot(4, "634", 0);
        fitsNot(4, "733", 0);
        fitsNot(4, "6634643", 0);
        fitsNot(5, "8633", 0);
        fitsNot(5, "83", 0);
        fitsNot(6, "8634", 0);
        fitsNot(6, "8723", 0);
        fitsNot(6, "623", 0);
        fitsNot(6, "8613", 0);
        fitsNot(7, "78384", 0);
        fitsNot(7, "733", 0);
        fitsNot(7, "7383", 0);
        fitsNot(7, "7833", 0);
        fitsNot(7, "68383", 0);
        fitsNot(7, "7873483", 0);
        fitsNot(8, "6183", 0);
        fitsNot(8, "623", 0);
        fitsNot(8, "7283", 0);
        fitsNot(8, "68384", 0);
        fitsNot(9, "6384", 0);
        fitsNot(9, "7383", 0);
        fitsNot(9, "68383", 0);
        fitsNot(10, "6735745", 0);
        fitsNot(10, "7734735", 0);
        fitsNot(10, "6634635", 0);
        fitsNot(10, "6734635", 0);
        fitsNot(10, "6634735", 0);
        fitsNot(11, "6734735", 0);
        fitsNot(11, "6635645", 0);
        fitsNot(11, "6735645", 0);
        fitsNot(11, "6635745", 0);
        fitsNot(11, "7735745", 0);
        fitsNot(12, "627384", 0);
        fitsNot(12, "627834", 0);
        fitsNot(12, "673842", 0);
        fitsNot(12, "678342", 0);
        fitsNot(12, "626383", 0);
        fitsNot(12, "617383", 0);
        fitsNot(12, "673831", 0);
        fitsNot(12, "637383", 0);
        fitsNot(12, "727383", 0);
        fitsNot(12, "62733", 0);
        fitsNot(12, "6278383", 0);
        fitsNot(13, "8634", 0);
        fitsNot(13, "87834", 0);
        fitsNot(13, "68384", 0);
        fitsNot(14, "868384", 0);
        fitsNot(14, "87834", 0);
        fitsNot(14, "87384", 0);
        fitsNot(14, "78384", 0);
        fitsNot(15, "63645", 0);
        fitsNot(15, "66343", 0);
        fitsNot(15, "66334", 0);
        fitsNot(15, "63734", 0);
        fitsNot(15, "73634", 0);
        for (int rule = 0; rule < 16; rule++) {
            for (int leaf = 1; leaf <= 5; leaf++) {
                fitsNot(rule, Integer.toString(leaf), 0);
            }
        }
    }

    /** Every left side of every rule with parts of several sizes, behind, in front of and under others. */
    private static void everyLeftSideWithLargerParts() {
        String[][] parts = {{"3", "734", "85"}, {"84", "5", "634"}, {"1", "2", "83"}, {"645", "3", "4"}, {"734", "84", "3"}};
        for (int rule = 0; rule < 16; rule++) {
            String[] sides = Oracle.RULES[rule];
            for (int side = 0; side < sides.length - 1; side++) {
                for (String[] part : parts) {
                    String text = filled(sides[side], part);
                    String result = Oracle.atRoot(text, rule);
                    fitsIfShort(rule, text, "", "", result);
                    fitsIfShort(rule, text, "8", "", result);
                    fitsIfShort(rule, text, "65", "", result);
                    fitsIfShort(rule, text, "6", "5", result);
                    fitsIfShort(rule, text, "786358", "", result);
                    fitsIfShort(rule, text, "76", "584", result);
                }
            }
        }
    }

    private static String filled(String side, String[] part) {
        return side.replace("x", part[0]).replace("y", part[1]).replace("z", part[2]);
    }

    private static void fitsIfShort(int rule, String text, String front, String back, String result) {
        String whole = front + text + back;
        if (whole.length() <= 18) {
            fits(rule, whole, front.length(), front + result + back);
        }
    }

    private static void innerPositions() {
        fits(5, "888888888888888883", 0, "88888888888888883");
        fits(5, "888888888888888883", 15, "88888888888888883");
        fitsNot(5, "888888888888888883", 16);
        fitsNot(5, "888888888888888883", 17);
        fits(3, "881", 1, "82");
        fits(0, "66134", 1, "634");
        fits(0, "64613", 2, "643");
        fits(1, "667137545", 2, "6617545");
    }

    private static void first(String text, int position, int rule) {
        RegexSimplifier x = new RegexSimplifier();
        due.is("firstPosition(" + text + ")", x.firstPosition(Long.parseLong(text)), position);
        due.is("firstRule(" + text + ")", x.firstRule(Long.parseLong(text)), rule);
    }

    private static void firstSteps() {
        first("1", -9, -9);
        first("3", -9, -9);
        first("83", -9, -9);
        first("73645", -9, -9);
        first("66666666333333333", 7, 4);
        first("611", 0, 0);
        first("622", 0, 4);
        first("712", 0, 1);
        first("721", 0, 1);
        first("722", 0, 2);
        first("68383", 0, 4);
        first("63633", 0, 15);
        first("6734734", 0, 4);
        first("8881", 0, 5);
        first("881", 0, 5);
        first("7381", 2, 3);
        first("63613", 0, 15);
        first("64613", 2, 0);
        first("6734613", 4, 0);
        first("62868384", 0, 8);
        first("7868384613", 1, 13);
        first("66838384", 1, 4);
        first("888888888888888883", 0, 5);
        first("766666633333348881", 6, 4);
    }
}
