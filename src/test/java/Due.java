import java.io.IOException;
import java.nio.file.Files;
import java.nio.file.Path;
import java.nio.file.StandardOpenOption;
import java.util.LinkedHashSet;
import java.util.Set;

/** Collects the answers that are not as due, for one test class. */
final class Due {
    /** Names the file to which the sentences are added that were tested; without it they are not kept. */
    private static final String SENTENCES_FILE = "sentences";

    private final String test;
    private final Set<String> sentences = new LinkedHashSet<>();
    private String sentence = "";
    private int checkedOfSentence = 1;
    private int checked = 0;
    private int wrong = 0;

    Due(String test) {
        this.test = test;
    }

    /** What follows tests these words of the document, which stand under this heading. */
    void sentence(String heading, String words) {
        endSentence();
        sentence = heading + ", \"" + words + "\": ";
        sentences.add(heading + "\t" + words);
        checkedOfSentence = 0;
    }

    private void endSentence() {
        if (checkedOfSentence == 0) {
            wrong++;
            System.out.println(test + ": " + sentence + "nothing was checked");
        }
    }

    void is(String call, long got, long want) {
        checked++;
        checkedOfSentence++;
        if (got != want) {
            wrong++;
            System.out.println(test + ": " + sentence + call + " answered " + got + ", due is " + want);
        }
    }

    void holds(String what, boolean holds) {
        checked++;
        checkedOfSentence++;
        if (!holds) {
            wrong++;
            System.out.println(test + ": " + sentence + "does not hold: " + what);
        }
    }

    void end() {
        endSentence();
        keepSentences();
        System.out.println(test + ": " + checked + " checked, " + wrong + " wrong");
        if (wrong != 0 || checked == 0) {
            System.exit(1);
        }
    }

    private void keepSentences() {
        String file = System.getProperty(SENTENCES_FILE);
        if (file == null) {
            return;
        }
        try {
            Files.write(Path.of(file), sentences, StandardOpenOption.CREATE, StandardOpenOption.APPEND);
        } catch (IOException problem) {
            wrong++;
            System.out.println(test + ": the sentences cannot be kept: " + problem);
        }
    }
}
