/** Counts the answers that are not as due, and prints each of them with the sentence that it is due by. */
final class Due {
    private static int asked;
    private static int wrong;
    private static int sentences;
    private static int askedAhead;
    private static String sentence = "";

    private Due() {
    }

    /** What is asked from here on is due by this sentence of the document. */
    static void by(String words) {
        endSentence();
        sentences++;
        sentence = words;
        askedAhead = asked;
    }

    /** A sentence by which nothing was asked is no test. */
    private static void endSentence() {
        if (sentences > 0 && asked == askedAhead) {
            wrong++;
            System.out.println(sentence + ": nothing was asked");
        }
    }

    static void is(String call, long got, long want) {
        asked++;
        if (got != want) {
            wrong++;
            String told = sentence.isEmpty() ? "" : "[" + sentence + "] ";
            System.out.println(told + call + " answered " + got + ", due is " + want);
        }
    }

    /** A fraction is told as what is above, and below the line. */
    static void isPart(String call, long above, long below, long wantAbove, long wantBelow) {
        is(call + ", above", above, wantAbove);
        is(call + ", below", below, wantBelow);
    }

    static void that(String what, boolean holds) {
        is(what, holds ? 1 : 0, 1);
    }

    /** The last call of a test's main. */
    static void end(String test) {
        endSentence();
        String by = sentences > 0 ? sentences + " sentences, " : "";
        System.out.println(test + ": " + by + asked + " answers, " + wrong + " not as due");
        if (wrong != 0 || asked == 0) {
            System.exit(1);
        }
    }
}
