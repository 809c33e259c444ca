/** Counts and prints the answers that are not as due; each test ends with end(). */
final class Due {
    private static int wrong = 0;
    private static int asked = 0;
    private static String sentence = "";

    private Due() {
    }

    /** What is asked from now on looks at this sentence, which must stand in the document to the letter. */
    static void says(String quoted) {
        sentence = "";
        holds("the document says: " + quoted, Document.has(quoted));
        sentence = "[" + quoted + "] ";
    }

    static void due(String what, long got, long want) {
        asked++;
        if (got != want) {
            wrong++;
            System.out.println(sentence + what + " answered " + got + ", due is " + want);
        }
    }

    static void holds(String what, boolean holds) {
        asked++;
        if (!holds) {
            wrong++;
            System.out.println(sentence + what + " does not hold");
        }
    }

    static void end() {
        System.out.println(asked + " asked, " + wrong + " wrong");
        if (wrong != 0) {
            System.exit(1);
        }
    }
}
