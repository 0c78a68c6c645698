/** Counts and prints the answers that are not the ones due, each under the sentence of the document it holds. */
final class Due {
    private final String test;
    private String sentence = "";
    private int asked;
    private int askedOfSentence = 1;
    private int wrong;

    Due(String test) {
        this.test = test;
    }

    /** What comes next holds this sentence; SentencesTest finds it under that heading of the document. */
    void says(String heading, String words) {
        endSentence();
        sentence = heading + ", \"" + words + "\": ";
        askedOfSentence = 0;
    }

    void is(String call, long got, long want) {
        count(got == want, call + " answered " + got + ", due is " + want);
    }

    void same(String what, String got, String want) {
        count(got.equals(want), what + ": " + got + ", due is " + want);
    }

    void holds(String what, boolean does) {
        count(does, "does not hold: " + what);
    }

    private void count(boolean good, String otherwise) {
        asked++;
        askedOfSentence++;
        if (!good) {
            wrong++;
            System.out.println(sentence + otherwise);
        }
    }

    private void endSentence() {
        if (askedOfSentence == 0) {
            wrong++;
            System.out.println(sentence + "no answer was asked for");
        }
    }

    void end() {
        endSentence();
        System.out.println(test + ": " + asked + " answers, " + wrong + " wrong");
        if (wrong != 0 || asked == 0) {
            System.exit(1);
        }
    }
}
