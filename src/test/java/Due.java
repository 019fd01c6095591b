/** Holds answers against what is due by the words of the document, and fails a test that has a wrong one. */
final class Due {
    static final int NONE = -1, KIND = -2, CROWDED = -3, FULL = -4;
    static final int LOW = Integer.MIN_VALUE, HIGH = Integer.MAX_VALUE;

    private static String sentence = "";
    private static int sentences = 0;
    private static int wrong = 0;

    private Due() { }

    /** The words of the document that the answers behind this call are due by. */
    static void by(String words) {
        sentence = words;
        sentences++;
    }

    static void is(String call, long got, long want) {
        if (got != want) {
            wrong++;
            System.out.println("'" + sentence + "': " + call + " answered " + got + ", due is " + want);
        }
    }

    static void end() {
        System.out.println(sentences + " sentences, " + wrong + " answers are not as due");
        if (wrong != 0) System.exit(1);
    }
}
