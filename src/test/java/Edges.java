/** Answers that are due at the edges, each under the document's words that name the edge. */
final class Edges {
    private final Document document = new Document();
    private final Due due;
    private String words = "";
    private int answers = 0;

    Edges(String test) {
        due = new Due(test);
    }

    /** What is asked from here on is for these words, which must stand in the document. */
    void words(String section, String said) {
        leave();
        due.yes(section + " says: " + said, document.says(section, said));
        words = section + ", \"" + said + "\": ";
    }

    /** No words are named without an answer that they are for. */
    private void leave() {
        due.yes(words + "something is asked", words.isEmpty() || answers > 0);
        answers = 0;
    }

    void is(String what, long want, long got) {
        answers++;
        due.is(words + what, want, got);
    }

    void yes(String what, boolean got) {
        is(what, 1, got ? 1 : 0);
    }

    void no(String what, boolean got) {
        is(what, 0, got ? 1 : 0);
    }

    void end() {
        leave();
        due.end();
    }

    /** A palace whose HOURS from 0 on are of these OWNERS (-1: nobody's). */
    static BellHours owned(int... owners) {
        BellHours x = new BellHours();
        for (int h = 0; h < owners.length; h++) {
            x.own(h, owners[h]);
        }
        return x;
    }
}
