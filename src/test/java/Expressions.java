import java.util.ArrayList;
import java.util.List;

/** Makes expressions for tests: all of a size, or a long row that is the same in every run. */
final class Expressions {
    /** Zero, negative, wrong digits, too short, too long, more than 18 digits. */
    static final long[] MALFORMED = {
        0L, -1L, -3L, -83L, Long.MIN_VALUE, Long.MAX_VALUE, 9L, 10L, 30L, 93L, 39L, 303L, 603L, 630L, 693L, 803L,
        6L, 7L, 8L, 66L, 88L, 63L, 73L, 68L, 78L, 634634L, 33L, 12L, 6345L, 7345L, 835L, 366L, 836L, 6683L,
        934L, 9345L, 60345L, 69345L, 804L, 8034L, 8934L, 890L,
        999999999999999999L, 888888888888888888L, 666666666666666666L, 1000000000000000000L,
        1000000000000000003L, 8888888888888888883L, 3333333333333333333L, 8888888888888888888L,
        6634634634634634634L, 100000000000000000L, 633333333333333333L,
    };

    /** For each rule an expression that no other rule is applicable to, at its root alone. */
    static final long[] ONE_RULE = {613L, 713L, 723L, 81L, 633L, 883L, 8623L, 78383L,
        6283L, 6383L, 6734735L, 6735745L, 627383L, 86834L, 878384L, 63634L};

    /** What the rule makes of it. */
    static final long[] ONE_RULE_RESULTS = {3L, 1L, 3L, 2L, 3L, 83L, 83L, 83L,
        83L, 83L, 73645L, 76345L, 83L, 8634L, 8634L, 634L};

    private long seed;

    Expressions(long seed) {
        this.seed = seed;
    }

    static List<List<String>> allUpTo(int size, String leaves) {
        List<List<String>> bySize = new ArrayList<>();
        bySize.add(new ArrayList<>());
        for (int nodes = 1; nodes <= size; nodes++) {
            bySize.add(allOf(nodes, leaves, bySize));
        }
        return bySize;
    }

    private static List<String> allOf(int nodes, String leaves, List<List<String>> smaller) {
        List<String> all = new ArrayList<>();
        if (nodes == 1) {
            for (char leaf : leaves.toCharArray()) {
                all.add(String.valueOf(leaf));
            }
            return all;
        }
        for (String operand : smaller.get(nodes - 1)) {
            all.add("8" + operand);
        }
        for (int left = 1; left < nodes - 1; left++) {
            for (String front : smaller.get(left)) {
                for (String back : smaller.get(nodes - 1 - left)) {
                    all.add("6" + front + back);
                    all.add("7" + front + back);
                }
            }
        }
        return all;
    }

    int below(int bound) {
        seed = seed * 6364136223846793005L + 1442695040888963407L;
        return (int) ((seed >>> 33) % bound);
    }

    /** An expression of exactly this size over the leaves. */
    String ofSize(int size, String leaves) {
        if (size == 1) {
            return String.valueOf(leaves.charAt(below(leaves.length())));
        }
        if (size == 2 || below(4) == 0) {
            return "8" + ofSize(size - 1, leaves);
        }
        int left = 1 + below(size - 2);
        String front = ofSize(left, leaves);
        String back = size - 1 - left == left && below(3) == 0 ? front : ofSize(size - 1 - left, leaves);
        return (below(2) == 0 ? "6" : "7") + front + back;
    }

    /** Grows an expression by rules read from right to left, so that many steps lead back. */
    String grown(int most) {
        String text = ofSize(1 + below(4), "12345");
        for (int tries = 0; tries < 30; tries++) {
            int position = below(text.length());
            int end = Oracle.end(text, position);
            String larger = enlarged(text.substring(position, end));
            String next = text.substring(0, position) + larger + text.substring(end);
            if (next.length() <= most) {
                text = next;
            }
        }
        return text;
    }

    private String enlarged(String x) {
        String y = ofSize(1 + below(3), "12345");
        switch (below(12)) {
            case 0: return "61" + x;
            case 1: return "6" + x + "1";
            case 2: return "72" + x;
            case 3: return "7" + x + "2";
            case 4: return "6" + x + x;
            case 5: return x.charAt(0) == '8' ? "8" + x : x;
            case 6: return x.charAt(0) == '8' ? "7" + x + x : x;
            case 7: return x.charAt(0) == '8' ? "62" + x : x;
            case 8: return x.charAt(0) == '8' ? "6" + x.substring(1) + x : x;
            case 9: return x.charAt(0) == '8' ? "627" + x.substring(1) + x : x;
            case 10: return "6" + x + "6" + x + y;
            default: return x.equals("1") ? "71" + y : x.equals("2") ? "81" : x;
        }
    }
}
