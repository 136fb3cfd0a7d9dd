/** Collects the answers that are not as due, for one test class. */
final class Due {
    private final String test;
    private int checked = 0;
    private int wrong = 0;

    Due(String test) {
        this.test = test;
    }

    void is(String call, long got, long want) {
        checked++;
        if (got != want) {
            wrong++;
            System.out.println(test + ": " + call + " answered " + got + ", due is " + want);
        }
    }

    void holds(String what, boolean holds) {
        checked++;
        if (!holds) {
            wrong++;
            System.out.println(test + ": does not hold: " + what);
        }
    }

    void end() {
        System.out.println(test + ": " + checked + " checked, " + wrong + " wrong");
        if (wrong != 0 || checked == 0) {
            System.exit(1);
        }
    }
}
