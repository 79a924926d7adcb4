/** Counts the answers that are not as due, and ends a test with 1 if there was one. */
final class Check {
    private static int wrong = 0;
    private static int asked = 0;
    private static String sentence = "";

    private Check() { }

    /** The part of the document, and the words in it, by which the answers that follow are due; see QuotesTest. */
    static void sentence(String part, String... words) {
        sentence = part + ": " + String.join("; ", words) + ": ";
    }

    static void due(String call, long got, long want) {
        asked++;
        if (got != want) {
            wrong++;
            System.out.println(sentence + call + " answered " + got + ", due is " + want);
        }
    }

    static void holds(String what, boolean right) {
        asked++;
        if (!right) {
            wrong++;
            System.out.println(sentence + "does not hold: " + what);
        }
    }

    static void end() {
        System.out.println(asked + " answers, " + wrong + " not as due");
        if (wrong != 0 || asked == 0) {
            System.exit(1);
        }
    }
}
