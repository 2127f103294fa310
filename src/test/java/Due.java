/** Counts what a test asks and prints each answer that is not due. */
final class Due {
    private final String test;
    private int asked = 0;
    private int wrong = 0;

    Due(String test) {
        this.test = test;
    }

    void is(String call, long got, long want) {
        asked++;
        if (got != want) {
            wrong++;
            System.out.println(test + ": " + call + " answered " + got + ", due is " + want);
        }
    }

    void holds(String what, boolean does) {
        asked++;
        if (!does) {
            wrong++;
            System.out.println(test + ": it does not hold: " + what);
        }
    }

    int countWrong() {
        return wrong;
    }

    /** Ends the program: 1 if something was wrong, or if nothing was asked. */
    void close() {
        System.out.println(test + ": " + asked + " asked, " + wrong + " wrong");
        System.exit(wrong == 0 && asked > 0 ? 0 : 1);
    }
}
