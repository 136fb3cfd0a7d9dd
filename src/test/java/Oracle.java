import java.util.ArrayDeque;
import java.util.ArrayList;
import java.util.HashMap;
import java.util.HashSet;
import java.util.LinkedHashMap;
import java.util.List;
import java.util.Map;
import java.util.Set;
import java.util.TreeSet;

/**
 * The document once more, by other means than the class: rules as patterns over texts, words by
 * partial derivatives, equivalence by a walk through all pairs of sets.
 */
final class Oracle {
    /** For each rule its left sides in order, then its right side. */
    static final String[][] RULES = {
        {"61x", "6x1", "x"},
        {"71x", "7x1", "1"},
        {"72x", "7x2", "x"},
        {"81", "82", "2"},
        {"6xx", "x"},
        {"88x", "8x"},
        {"862x", "86x2", "8x"},
        {"78x8x", "8x"},
        {"628x", "68x2", "8x"},
        {"6x8x", "68xx", "8x"},
        {"67xy7xz", "7x6yz"},
        {"67xz7yz", "76xyz"},
        {"627x8x", "6278xx", "67x8x2", "678xx2", "8x"},
        {"868xy", "86x8y", "86xy"},
        {"878x8y", "86xy"},
        {"6x6xy", "6x6yx", "6xy"},
    };

    private final Map<String, Set<String>> derivatives = new HashMap<>();

    static boolean wellFormed(long regex) {
        String text = Long.toString(regex);
        return regex > 0 && text.length() <= 18 && end(text, 0) == text.length();
    }

    /** Where the expression that begins at an index ends, -1 if none does. */
    static int end(String text, int index) {
        if (index < 0 || index >= text.length()) {
            return -1;
        }
        char digit = text.charAt(index);
        if (digit >= '1' && digit <= '5') {
            return index + 1;
        }
        if (digit == '8') {
            return end(text, index + 1);
        }
        return digit == '6' || digit == '7' ? end(text, end(text, index + 1)) : -1;
    }

    static String left(String text) {
        return text.substring(1, end(text, 1));
    }

    static String right(String text) {
        return text.substring(end(text, 1));
    }

    static int starHeight(String text) {
        switch (text.charAt(0)) {
            case '8':
                return 1 + starHeight(text.substring(1));
            case '6':
            case '7':
                return Math.max(starHeight(left(text)), starHeight(right(text)));
            default:
                return 0;
        }
    }

    static boolean matchesEmptyWord(String text) {
        switch (text.charAt(0)) {
            case '2':
            case '8':
                return true;
            case '6':
                return matchesEmptyWord(left(text)) || matchesEmptyWord(right(text));
            case '7':
                return matchesEmptyWord(left(text)) && matchesEmptyWord(right(text));
            default:
                return false;
        }
    }

    /** The expressions whose union matches what is left of the matched words behind a symbol. */
    Set<String> derivative(String text, int symbol) {
        String key = symbol + text;
        Set<String> known = derivatives.get(key);
        if (known != null) {
            return known;
        }
        Set<String> result = new TreeSet<>();
        switch (text.charAt(0)) {
            case '6':
                result.addAll(derivative(left(text), symbol));
                result.addAll(derivative(right(text), symbol));
                break;
            case '7':
                for (String rest : derivative(left(text), symbol)) {
                    result.add("7" + rest + right(text));
                }
                if (matchesEmptyWord(left(text))) {
                    result.addAll(derivative(right(text), symbol));
                }
                break;
            case '8':
                for (String rest : derivative(text.substring(1), symbol)) {
                    result.add("7" + rest + text);
                }
                break;
            default:
                if (text.charAt(0) == '3' + symbol) {
                    result.add("2");
                }
        }
        derivatives.put(key, result);
        return result;
    }

    private Set<String> derivative(Set<String> texts, int symbol) {
        Set<String> result = new TreeSet<>();
        for (String text : texts) {
            result.addAll(derivative(text, symbol));
        }
        return result;
    }

    private static boolean matchesEmptyWord(Set<String> texts) {
        for (String text : texts) {
            if (matchesEmptyWord(text)) {
                return true;
            }
        }
        return false;
    }

    int countWords(Set<String> texts, int length) {
        if (length == 0) {
            return matchesEmptyWord(texts) ? 1 : 0;
        }
        int words = 0;
        for (int symbol = 0; symbol < 3 && !texts.isEmpty(); symbol++) {
            words += countWords(derivative(texts, symbol), length - 1);
        }
        return words;
    }

    /** The first word, by length and then by symbols, that exactly one matches; null if there is none. */
    String difference(String first, String second) {
        ArrayDeque<List<Set<String>>> pairs = new ArrayDeque<>();
        ArrayDeque<String> words = new ArrayDeque<>();
        Set<List<Set<String>>> seen = new HashSet<>();
        pairs.add(List.of(Set.of(first), Set.of(second)));
        words.add("");
        seen.add(pairs.peek());
        while (!pairs.isEmpty()) {
            List<Set<String>> pair = pairs.remove();
            String word = words.remove();
            if (matchesEmptyWord(pair.get(0)) != matchesEmptyWord(pair.get(1))) {
                return word;
            }
            for (int symbol = 0; symbol < 3; symbol++) {
                List<Set<String>> next =
                    List.of(derivative(pair.get(0), symbol), derivative(pair.get(1), symbol));
                if (seen.add(next)) {
                    pairs.add(next);
                    words.add(word + symbol);
                }
            }
        }
        return null;
    }

    /** What a rule makes of a whole expression at its root, null if it is not applicable. */
    static String atRoot(String text, int rule) {
        String[] sides = RULES[rule];
        for (int side = 0; side < sides.length - 1; side++) {
            String[] bound = new String[3];
            if (match(sides[side], text, bound)) {
                StringBuilder result = new StringBuilder();
                for (char sign : sides[sides.length - 1].toCharArray()) {
                    result.append(sign >= 'x' ? bound[sign - 'x'] : String.valueOf(sign));
                }
                return result.toString();
            }
        }
        return null;
    }

    private static boolean match(String pattern, String text, String[] bound) {
        int at = 0;
        for (char sign : pattern.toCharArray()) {
            if (at >= text.length()) {
                return false;
            }
            int next = sign >= 'x' ? end(text, at) : at + 1;
            String part = text.substring(at, next);
            if (sign < 'x' ? part.charAt(0) != sign : bound[sign - 'x'] != null && !bound[sign - 'x'].equals(part)) {
                return false;
            }
            if (sign >= 'x') {
                bound[sign - 'x'] = part;
            }
            at = next;
        }
        return at == text.length();
    }

    static String rewrite(String text, int rule, int position) {
        int end = end(text, position);
        String result = atRoot(text.substring(position, end), rule);
        return result == null ? null : text.substring(0, position) + result + text.substring(end);
    }

    /** The first applicable step as position * 16 + rule, -1 if there is none. */
    static int firstStep(String text) {
        for (int step = 0; step < text.length() * 16; step++) {
            if (rewrite(text, step % 16, step / 16) != null) {
                return step;
            }
        }
        return -1;
    }

    static int applicableCount(String text) {
        int count = 0;
        for (int step = 0; step < text.length() * 16; step++) {
            count += rewrite(text, step % 16, step / 16) != null ? 1 : 0;
        }
        return count;
    }

    /** The expressions met by the search, in order, with their distances; at most so many. */
    static Map<String, Integer> met(String text, int most) {
        Map<String, Integer> met = new LinkedHashMap<>();
        List<String> queue = new ArrayList<>();
        met.put(text, 0);
        queue.add(text);
        for (int next = 0; next < queue.size() && met.size() < most; next++) {
            String from = queue.get(next);
            for (int step = 0; step < from.length() * 16 && met.size() < most; step++) {
                String result = rewrite(from, step % 16, step / 16);
                if (result != null && !met.containsKey(result)) {
                    met.put(result, met.get(from) + 1);
                    queue.add(result);
                }
            }
        }
        return met;
    }

    static String smallest(Map<String, Integer> met) {
        String best = null;
        for (String text : met.keySet()) {
            if (best == null || text.length() < best.length()) {
                best = text;
            }
        }
        return best;
    }
}
