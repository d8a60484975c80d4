/** Counts the answers that are not as due, and ends the test accordingly. */
final class Check {
    private static int asked = 0;
    private static int wrong = 0;
    private static int sentences = 0;
    private static int askedBefore = 0;
    private static String words = "";

    private Check() {
    }

    /** The document's own words that the answers from here on are held against. */
    static void sentence(String quoted) {
        endSentence();
        words = quoted;
        sentences++;
    }

    /** A sentence that nothing was asked about has no test, whatever its heading says. */
    private static void endSentence() {
        if (!words.isEmpty() && asked == askedBefore) {
            wrong++;
            System.out.println("nothing was asked about: " + words);
        }
        askedBefore = asked;
    }

    static void due(String what, long got, long want) {
        asked++;
        if (got != want) {
            tell(what + " answered " + got + ", due is " + want);
        }
    }

    static void due(String what, boolean got, boolean want) {
        due(what, got ? 1L : 0L, want ? 1L : 0L);
    }

    static void due(String what, String got, String want) {
        asked++;
        if (!got.equals(want)) {
            tell(what + " answered " + got + ", due is " + want);
        }
    }

    private static void tell(String fault) {
        wrong++;
        System.out.println(words.isEmpty() ? fault : fault + "   [" + words + "]");
    }

    static void end(String test) {
        endSentence();
        String quoted = sentences == 0 ? "" : sentences + " sentences, ";
        System.out.println(test + ": " + quoted + asked + " answers, " + wrong + " not as due");
        if (wrong != 0 || asked == 0) {
            System.exit(1);
        }
    }
}
