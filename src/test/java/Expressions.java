import java.util.ArrayList;
import java.util.List;

/** Makes expressions for tests: all of a size, or a long row that is the same in every run. */
final class Expressions {
    private long seed;

    Expressions(long seed) {
        this.seed = seed;
    }

    static List<List<String>> allUpTo(int size, String leaves) {
        List<List<String>> bySize = new ArrayList<>();
        bySize.add(new ArrayList<>());
        for (int nodes = 1; nodes <= size; nodes++) {
            bySize.add(allOf(nodes, leaves, bySize));
        }
        return bySize;
    }

    private static List<String> allOf(int nodes, String leaves, List<List<String>> smaller) {
        List<String> all = new ArrayList<>();
        if (nodes == 1) {
            for (char leaf : leaves.toCharArray()) {
                all.add(String.valueOf(leaf));
            }
            return all;
        }
        for (String operand : smaller.get(nodes - 1)) {
            all.add("8" + operand);
        }
        for (int left = 1; left < nodes - 1; left++) {
            for (String front : smaller.get(left)) {
                for (String back : smaller.get(nodes - 1 - left)) {
                    all.add("6" + front + back);
                    all.add("7" + front + back);
                }
            }
        }
        return all;
    }

    int below(int bound) {
        seed = seed * 6364136223846793005L + 1442695040888963407L;
        return (int) ((seed >>> 33) % bound);
    }

    /** An expression of exactly this size over the leaves. */
    String ofSize(int size, String leaves) {
        if (size == 1) {
            return String.valueOf(leaves.charAt(below(leaves.length())));
        }
        if (size == 2 || below(4) == 0) {
            return "8" + ofSize(size - 1, leaves);
        }
        int left = 1 + below(size - 2);
        String front = ofSize(left, leaves);
        String back = size - 1 - left == left && below(3) == 0 ? front : ofSize(size - 1 - left, leaves);
        return (below(2) == 0 ? "6" : "7") + front + back;
    }

    /** Grows an expression by rules read from right to left, so that many steps lead back. */
    String grown(int most) {
        String text = ofSize(1 + below(4), "12345");
        for (int tries = 0; tries < 30; tries++) {
            int position = below(text.length());
            int end = Oracle.end(text, position);
            String larger = enlarged(text.substring(position, end));
            String next = text.substring(0, position) + larger + text.substring(end);
            if (next.length() <= most) {
                text = next;
            }
        }
        return text;
    }

    private String enlarged(String x) {
        String y = ofSize(1 + below(3), "12345");
        switch (below(12)) {
            case 0: return "61" + x;
            case 1: return "6" + x + "1";
            case 2: return "72" + x;
            case 3: return "7" + x + "2";
            case 4: return "6" + x + x;
            case 5: return x.charAt(0) == '8' ? "8" + x : x;
            case 6: return x.charAt(0) == '8' ? "7" + x + x : x;
            case 7: return x.charAt(0) == '8' ? "62" + x : x;
            case 8: return x.charAt(0) == '8' ? "6" + x.substring(1) + x : x;
            case 9: return x.charAt(0) == '8' ? "627" + x.substring(1) + x : x;
            case 10: return "6" + x + "6" + x + y;
            default: return x.equals("1") ? "71" + y : x.equals("2") ? "81" : x;
        }
    }
}
