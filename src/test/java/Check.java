/** Counts the answers of one test that are not the due ones, and ends it with the exit code that is due. */
final class Check {
    private static int asked = 0;
    private static int wrong = 0;
    private static int sentences = 0;
    private static String sentence = "";
    private static int askedBefore = -1;

    private Check() {
    }

    /** Names the sentence of the document that the answers from here on are asked for. */
    static void sentence(String words) {
        endSentence();
        sentences++;
        sentence = words;
        askedBefore = asked;
    }

    static void due(String what, long got, long want) {
        due(what, Long.toString(got), Long.toString(want));
    }

    static void due(String what, boolean got, boolean want) {
        due(what, Boolean.toString(got), Boolean.toString(want));
    }

    static void due(String what, String got, String want) {
        asked++;
        if (!got.equals(want)) {
            wrong++;
            System.out.println(shown(what) + " answered <" + shown(got) + ">, due is <" + shown(want) + ">");
            if (!sentence.isEmpty()) {
                System.out.println("    the document: " + sentence);
            }
        }
    }

    static void finish() {
        endSentence();
        System.out.println(asked + " answers, " + wrong + " not as due"
                + (sentences == 0 ? "" : "; " + sentences + " sentences"));
        if (wrong != 0 || asked == 0) {
            System.exit(1);
        }
    }

    /** A sentence for which nothing was asked counts as a wrong answer, for it would look tested. */
    private static void endSentence() {
        if (asked == askedBefore) {
            wrong++;
            System.out.println("nothing was asked for: " + sentence);
        }
    }

    private static String shown(String text) {
        return text.replace("\n", "\\n");
    }
}
