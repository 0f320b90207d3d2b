/** Counts and prints the answers that are not as due, and ends the test with exit code 1 if there was one. */
final class Checks {
    private static final int MOST_PRINTED = 50;
    private int wrong;
    private int seen;

    void due(String what, Object got, Object want) {
        seen++;
        if (got.equals(want)) {
            return;
        }
        wrong++;
        if (wrong <= MOST_PRINTED) {
            System.out.println(what + " answered " + got + ", due is " + want);
        }
    }

    void end() {
        System.out.println(wrong == 0 ? seen + " answers are as due" : wrong + " of " + seen + " answers are not as due");
        if (wrong != 0 || seen == 0) {
            System.exit(1);
        }
    }
}
