/** What several tests need: boards by their texts, and all that an object tells without a change. */
final class Boards {
    private Boards() {
    }

    static EdgePicture on(String text) {
        EdgePicture x = new EdgePicture();
        read(x, text);
        return x;
    }

    static void write(EdgePicture x, String text) {
        for (char letter : text.toCharArray()) x.letter(letter);
    }

    /** THE PAGE has just this text then. */
    static void page(EdgePicture x, String text) {
        x.blank();
        write(x, text);
    }

    static void read(EdgePicture x, String text) {
        page(x, text);
        if (x.board() < 0) throw new IllegalStateException("no board: " + text);
    }

    /** A board with the same CLUE at each row, and at each column. */
    static String text(int high, int wide, String row, String column) {
        return "" + high + wide + ";" + row + ("," + row).repeat(high - 1) + ";" + column + ("," + column).repeat(wide - 1);
    }

    /** More than digest() takes: where THE PAGE is no board, what is spare, all that fits, the odds. */
    static long told(EdgePicture x) {
        long h = 31 * x.digest() + x.fault();
        for (int line = 0; line < x.count(2); line++) h = 31 * h + x.line(line, 4);
        for (int number = 0; number < x.left(); number++) h = 31 * h + x.picture(number);
        for (int cell = 0; cell < x.count(0) * x.count(1); cell++) h = 31 * (31 * h + x.odds(cell, 0)) + x.odds(cell, 1);
        return h;
    }
}
