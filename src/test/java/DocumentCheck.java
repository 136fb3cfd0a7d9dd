import java.io.IOException;
import java.nio.file.Files;
import java.nio.file.Path;
import java.util.ArrayList;
import java.util.LinkedHashMap;
import java.util.List;
import java.util.Map;

/**
 * Looks whether every word of the document is said by a test. It comes behind the tests: each of them adds the
 * sentences that it has tested to a file, with their headings. What no test says has to be among the words that
 * ask nothing of the class, and what a test says has to stand in the document.
 */
public final class DocumentCheck {
    /** Headings, and words that tell how the document is read or what is left free. */
    private static final String[][] ASKS_NOTHING = {
        {"What it is", "A step-by-step simplifier for small regular expressions, with an exact equivalence test and a "
            + "search for the smallest expression that the rewrite rules can reach."},
        {"What it is", "what later calls answer is free"},
        {"Description", "Encoding."},
        {"Description", "Words. "},
        {"Description", "Rules. "},
        {"Description", "rule left side(s) right side"},
        {"Description", "State. "},
        {"Description", "Errors. "},
        {"Description", "Examples: Each of them begins with a new object; the results are given behind the calls."},
        {"Description", "The constants:"},
        {"Description", "The constructor and the methods follow, a promise each: the signature, then what it does."},
        {"Promise 2", "---- expressions"},
        {"Promise 8", "---- rules"},
        {"Promise 12", "---- the current expression"},
        {"Promise 21", "---- the search"},
        {"Not promised", "How the state is held inside the object is free, as are the speed of each call, the text of "
            + "toString and the behaviour of equals and hashCode."},
        {"Not promised", "Use of one object from several threads at once is not promised to be safe."},
        {"Not promised", "Nothing is promised beyond the answers and state changes described above, and nothing about "
            + "an object after its 512th call."},
    };

    private final Map<String, String> texts = new LinkedHashMap<>();
    private final Map<String, boolean[]> said = new LinkedHashMap<>();
    private int wrong = 0;

    /** The arguments are the document and the file of the sentences. */
    public static void main(String[] args) throws IOException {
        DocumentCheck check = new DocumentCheck();
        check.readDocument(Files.readAllLines(Path.of(args[0])));
        for (String[] words : ASKS_NOTHING) {
            check.say(words[0], words[1]);
        }
        List<String> sentences = Files.readAllLines(Path.of(args[1]));
        for (String sentence : sentences) {
            String[] parts = sentence.split("\t", 2);
            check.say(parts[0], parts[1]);
        }
        check.findUnsaid();
        System.out.println("DocumentCheck: " + sentences.size() + " sentences of tests, " + check.wrong + " wrong");
        if (check.wrong != 0) {
            System.exit(1);
        }
    }

    /** A heading counts up to its colon; white space is folded. */
    private void readDocument(List<String> lines) {
        String heading = "";
        for (String line : lines) {
            if (line.startsWith("#")) {
                heading = line.replaceFirst("^#+ ", "").replaceFirst(":.*", "");
            } else if (!line.startsWith("```")) {
                texts.merge(heading, line, (above, below) -> above + " " + below);
            }
        }
        texts.replaceAll((at, text) -> folded(text));
        texts.forEach((at, text) -> said.put(at, new boolean[text.length()]));
    }

    private static String folded(String text) {
        return text.replaceAll("\\s+", " ");
    }

    private void say(String heading, String words) {
        String text = texts.getOrDefault(heading, "");
        String wanted = folded(words);
        int from = text.indexOf(wanted);
        if (from < 0) {
            wrong++;
            System.out.println("DocumentCheck: not in the document under " + heading + ": " + words);
        }
        while (from >= 0) {
            for (int index = from; index < from + wanted.length(); index++) {
                said.get(heading)[index] = true;
            }
            from = text.indexOf(wanted, from + 1);
        }
    }

    private void findUnsaid() {
        for (Map.Entry<String, String> section : texts.entrySet()) {
            for (String words : unsaidParts(section.getValue(), said.get(section.getKey()))) {
                wrong++;
                System.out.println("DocumentCheck: no test says, of " + section.getKey() + ": " + words);
            }
        }
    }

    /** What lies between the words that are said, if there is a letter or a digit in it. */
    private static List<String> unsaidParts(String text, boolean[] isSaid) {
        List<String> parts = new ArrayList<>();
        StringBuilder part = new StringBuilder();
        for (int index = 0; index <= text.length(); index++) {
            if (index < text.length() && !isSaid[index]) {
                part.append(text.charAt(index));
                continue;
            }
            if (part.chars().anyMatch(Character::isLetterOrDigit)) {
                parts.add(part.toString().trim());
            }
            part.setLength(0);
        }
        return parts;
    }
}
