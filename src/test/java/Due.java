/** Counts and prints the answers that are not as due. */
final class Due {

    private int asked = 0;
    private int wrong = 0;
    private String sentence = "";
    private int askedBefore = 0;

    /** What follows tests this sentence of the document, up to the next one. */
    void sentence(String promise, String words) {
        endSentence();
        sentence = promise + " \"" + words + "\": ";
        askedBefore = asked;
    }

    void is(String call, int got, int want) {
        asked++;
        if (got != want) {
            wrong++;
            System.out.println(sentence + call + " answered " + got + ", due is " + want);
        }
    }

    int wrong() {
        return wrong;
    }

    void end() {
        endSentence();
        System.out.println(asked + " answers, " + wrong + " not as due");
        if (wrong != 0 || asked == 0) {
            System.exit(1);
        }
    }

    /** A sentence that nothing was asked for is not tested, which must not pass unseen. */
    private void endSentence() {
        if (!sentence.isEmpty() && asked == askedBefore) {
            wrong++;
            System.out.println(sentence + "nothing was asked");
        }
    }
}
