/** Collects the answers that are not as due, for one test class. */
final class Due {
    private final String test;
    private String sentence = "";
    private int checkedOfSentence = 1;
    private int checked = 0;
    private int wrong = 0;

    Due(String test) {
        this.test = test;
    }

    /** What follows tests these words of the document, which stand under this heading. */
    void sentence(String heading, String words) {
        endSentence();
        sentence = heading + ", \"" + words + "\": ";
        checkedOfSentence = 0;
    }

    private void endSentence() {
        if (checkedOfSentence == 0) {
            wrong++;
            System.out.println(test + ": " + sentence + "nothing was checked");
        }
    }

    void is(String call, long got, long want) {
        checked++;
        checkedOfSentence++;
        if (got != want) {
            wrong++;
            System.out.println(test + ": " + sentence + call + " answered " + got + ", due is " + want);
        }
    }

    void holds(String what, boolean holds) {
        checked++;
        checkedOfSentence++;
        if (!holds) {
            wrong++;
            System.out.println(test + ": " + sentence + "does not hold: " + what);
        }
    }

    void end() {
        endSentence();
        System.out.println(test + ": " + checked + " checked, " + wrong + " wrong");
        if (wrong != 0 || checked == 0) {
            System.exit(1);
        }
    }
}
