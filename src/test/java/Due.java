/** Compares answers with those that are due, and prints every one that is not. */
final class Due {
    private int asked;
    private int wrong;

    void is(String call, long got, long want) {
        asked++;
        if (got != want) {
            wrong++;
            System.out.println(call + " answered " + got + ", due is " + want);
        }
    }

    void isDouble(String call, double got, double want) {
        asked++;
        if (Double.compare(got, want) != 0) {
            wrong++;
            System.out.println(call + " answered " + got + ", due is " + want);
        }
    }

    void same(String call, String got, String want) {
        asked++;
        if (!got.equals(want)) {
            wrong++;
            System.out.println(call + " answered " + got + ", due is " + want);
        }
    }

    /** A sentence of the document, and runs of calls on new objects that it decides. */
    void says(String sentence, String... runs) {
        for (String run : runs) {
            Calls.of(this, sentence, run);
        }
    }

    void holds(String what, boolean so) {
        asked++;
        if (!so) {
            wrong++;
            System.out.println("does not hold: " + what);
        }
    }

    boolean allDue() {
        return asked > 0 && wrong == 0;
    }
}
