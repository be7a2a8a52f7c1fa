/** Counts and prints the calls whose answer is not the one that is due. */
final class Due {
    private static final int MOST_PRINTED = 50;

    private String sentence = "";
    private int sentences = 0;
    private int wrong = 0;
    private int asked = 0;

    /** The answers that follow are held against this sentence of the document. */
    void sentence(String words) {
        sentence = "'" + words + "': ";
        sentences++;
    }

    void due(String call, long got, long want) {
        asked++;
        if (got == want) return;
        wrong++;
        if (wrong <= MOST_PRINTED) System.out.println(sentence + call + " answered " + got + ", due is " + want);
    }

    void due(String call, boolean got, boolean want) {
        due(call, got ? 1 : 0, want ? 1 : 0);
    }

    boolean hasWrong() {
        return wrong > 0;
    }

    /** Ends the test's process: with exit code 1 if an answer was wrong. */
    void end() {
        String of = sentences == 0 ? "" : sentences + " sentences, ";
        System.out.println(of + asked + " answers, " + wrong + " of them not as due");
        System.exit(wrong == 0 && asked > 0 ? 0 : 1);
    }
}
