/**
 * Counts the answers that are due and those that are not, and tells of the latter by which sentence
 * of the document they are due. DocumentTests looks up that each sentence is told by a test.
 */
final class Check {
    private static final int TOLD_AT_MOST = 40;

    private final String name;
    private String sentence = "";
    private int right;
    private int wrong;

    Check(String name) {
        this.name = name;
    }

    /** The answers from here on are due by this sentence of a part (0 to 4) of "Terms". */
    void terms(int part, String words) {
        sentence = "Terms " + part + ", \"" + words + "\": ";
    }

    /** The answers from here on are due by this sentence of a promise. */
    void promise(int number, String words) {
        sentence = "Promise " + number + ", \"" + words + "\": ";
    }

    void due(String call, long got, long want) {
        if (got == want) {
            right++;
            return;
        }
        wrong++;
        if (wrong <= TOLD_AT_MOST) {
            System.out.println(name + ": " + sentence + call + " answered " + got + ", due is " + want);
        }
    }

    void holds(String what, boolean is) {
        due(what, is ? 1 : 0, 1);
    }

    /** Ends the program, with exit code 1 if an answer was not the one that was due. */
    void end() {
        System.out.println(name + ": " + right + " answers as due, " + wrong + " not");
        if (wrong != 0 || right == 0) {
            System.exit(1);
        }
    }

    static void feed(PromiseScales x, String text) {
        for (int i = 0; i < text.length(); i++) {
            x.feed(text.charAt(i));
        }
    }

    /** Feeds a text and has it read. */
    static int tell(PromiseScales x, String text) {
        feed(x, text);
        return x.scales();
    }

    /** A new object with the scales of a text. */
    static PromiseScales told(String text) {
        PromiseScales x = new PromiseScales();
        int promises = tell(x, text);
        if (promises < 0) {
            throw new IllegalStateException("the text has a fault: " + text + " " + promises);
        }
        return x;
    }

    /** Makes a row of ints with these items. */
    static void put(PromiseScales x, int row, int... items) {
        x.row(row, 2, items.length);
        for (int i = 0; i < items.length; i++) {
            x.set(row, i, items[i]);
        }
    }
}
