/** What the tests share: an answer is held against the one that is due. */
final class Due {
    private static int asked = 0;
    private static int wrong = 0;
    private static int sentences = 0;
    private static String sentence = "";

    private Due() {
    }

    /** What stands in the document (or is said of it) and is held by the answers from here on. */
    static void sentence(String words) {
        sentences++;
        sentence = words;
    }

    static void is(String call, long got, long want) {
        asked++;
        if (got != want) {
            wrong++;
            if (wrong <= 50) {
                System.out.println(call + " answered " + got + ", due is " + want
                        + (sentence.isEmpty() ? "" : " (" + sentence + ")"));
            }
        }
    }

    static int wrongSoFar() {
        return wrong;
    }

    /** A new object to which a text was told that it has to take. */
    static SorrowSpots told(String text) {
        SorrowSpots x = new SorrowSpots();
        int lines = tell(x, text);
        int signs = (int) text.chars().filter(c -> c == ';').count();
        is("text() of " + text, lines, signs);
        return x;
    }

    /** The answer of text() to a text on an empty tape. */
    static int tell(SorrowSpots x, String text) {
        feed(x, text);
        return x.text();
    }

    static void feed(SorrowSpots x, String text) {
        for (int i = 0; i < text.length(); i++) {
            x.feed(text.charAt(i));
        }
    }

    /** Ends the test: by exit code 1 if an answer was wrong. */
    static void end(String test) {
        System.out.println(test + ": " + (sentences == 0 ? "" : sentences + " sentences, ")
                + asked + " answers, " + wrong + " wrong");
        if (wrong != 0 || asked == 0) {
            System.exit(1);
        }
    }
}
