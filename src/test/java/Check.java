/** Counts and prints the answers that are not the ones that are due. */
final class Check {
    private static int wrong = 0;
    private static int asked = 0;
    private static int askedBefore = 0;
    private static int sentences = 0;
    private static String sentence = "";

    private Check() {
    }

    /** The document's words that the answers from here on are due by. */
    static void sentence(String words) {
        endSentence();
        sentence = words;
        askedBefore = asked;
        sentences++;
    }

    static void due(String call, long got, long want) {
        asked++;
        if (got != want) {
            wrong++;
            String told = sentence.isEmpty() ? "" : " [" + sentence + "]";
            System.out.println(call + " answered " + got + ", due is " + want + told);
        }
    }

    /** A sentence of which nothing was asked has no test. */
    private static void endSentence() {
        if (sentences > 0 && asked == askedBefore) {
            wrong++;
            System.out.println("nothing was asked of: " + sentence);
        }
    }

    static void end() {
        endSentence();
        String of = sentences == 0 ? "" : " of " + sentences + " sentences";
        System.out.println(asked + " answers" + of + ", " + wrong + " not as due");
        if (wrong != 0 || asked == 0) {
            System.exit(1);
        }
    }
}
