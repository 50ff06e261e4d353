/** What the tests share: a desk that takes texts, and a tally of the answers that are not due. */
final class Bench {
    private final String name;
    private int wrong;
    private int asked;

    Bench(String name) {
        this.name = name;
    }

    void due(String what, long got, long want) {
        asked++;
        if (got != want) {
            wrong++;
            System.out.println(name + ": " + what + " answered " + got + ", due is " + want);
        }
    }

    void due(String what, boolean got, boolean want) {
        due(what, got ? 1 : 0, want ? 1 : 0);
    }

    /** Ends the program with exit code 1 if an answer was not due. */
    void close() {
        System.out.println(name + ": " + asked + " answers, " + wrong + " not due");
        if (wrong != 0) {
            System.exit(1);
        }
    }

    /** Puts a text on the tape, to the byte: blanks that fill the last row are taken back. */
    static void type(RewriteDesk desk, String text) {
        int filled = (text.length() + 19) / 20 * 20;
        for (int at = 0; at < filled; at += 20) {
            feed(desk, text.substring(at, Math.min(at + 20, text.length())));
        }
        desk.back(filled - text.length());
    }

    /** Feeds a row of twenty bytes, blanks behind what is told. */
    static int feed(RewriteDesk desk, String row) {
        return desk.feed(word(row, 0), word(row, 4), word(row, 8), word(row, 12), word(row, 16));
    }

    private static int word(String text, int at) {
        int word = 0;
        for (int i = at; i < at + 4; i++) {
            word = word << 8 | (i < text.length() ? text.charAt(i) & 255 : ' ');
        }
        return word;
    }

    /** A new desk that has read a text; the text is to have no fault. */
    RewriteDesk desk(String text) {
        RewriteDesk desk = new RewriteDesk();
        type(desk, text);
        due("read() of " + text, desk.read(), 0);
        return desk;
    }

    /** Whether a text has this fault at this place. */
    void fault(String text, int number, int place) {
        RewriteDesk desk = new RewriteDesk();
        type(desk, text);
        due("read() of " + text, desk.read(), number);
        due("place() of " + text, desk.place(), place);
    }

    /** A text with a mark '@' ahead of the fault's place: the mark itself is not read. */
    void marked(String text, int number) {
        int place = text.indexOf('@');
        fault(text.substring(0, place) + text.substring(place + 1), number, place);
    }

    void fine(String text) {
        fault(text, 0, RewriteDesk.NONE);
    }
}
