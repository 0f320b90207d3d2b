/** Counts and prints the answers that are not as due, and ends the test with exit code 1 if there was one. */
final class Checks {
    private static final int MOST_PRINTED = 50;
    private int wrong;
    private int seen;
    private int sentences;
    private int seenBefore;
    private String sentence = "";

    /** The answers from here on are due by this sentence of the document. */
    void sentence(String text) {
        sentenceHasAnswers();
        sentence = text;
        sentences++;
        seenBefore = seen;
    }

    void due(String what, Object got, Object want) {
        seen++;
        if (got.equals(want)) {
            return;
        }
        say(what + " answered " + got + ", due is " + want);
    }

    void end() {
        sentenceHasAnswers();
        String of = sentences == 0 ? "" : " (" + sentences + " sentences)";
        System.out.println((wrong == 0 ? seen + " answers are as due" : wrong + " of " + seen + " answers are not as due") + of);
        if (wrong != 0 || seen == 0) {
            System.exit(1);
        }
    }

    // A sentence that nothing was asked about would pass whatever the program does.
    private void sentenceHasAnswers() {
        if (sentences > 0 && seen == seenBefore) {
            say("nothing was asked");
        }
    }

    private void say(String text) {
        wrong++;
        if (wrong <= MOST_PRINTED) {
            System.out.println(sentence.isEmpty() ? text : "[" + sentence + "] " + text);
        }
    }
}
