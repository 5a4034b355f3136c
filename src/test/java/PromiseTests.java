/** For each promise of the document: ordinary answers, its edges, its refusals. */
public final class PromiseTests {
    private static final int NONE = -1, UNKNOWN = -101, OUTSIDE = -102, STATE = -103, FULL = -104;
    private static final int LOWEST = Integer.MIN_VALUE, HIGHEST = Integer.MAX_VALUE;
    private static final String SMALL = "22;c1,c1;c1,c1";
    private static final String WIDEST = "44;r11,r11,r11,r11;t21,t21,t21,t21";
    private static final String MANY = "44;p1,p1,p1,p1;p1,p1,p1,p1";
    // Its pictures are 6, 7 and 9.
    private static final String THREE = "22;p1,c1;p1,c1";
    private static final String EACH_KIND = "34;c2,r11,t21;l1,p1,c2,r10";

    private static final Check CHECK = new Check();

    public static void main(String[] args) {
        newObject();
        letter();
        blank();
        fault();
        board();
        lineNumbers();
        lineSpare();
        lineSorts();
        as();
        cell();
        keeps();
        mark();
        clear();
        clue();
        left();
        picture();
        look();
        odds();
        hints();
        one();
        see();
        forget();
        games();
        image();
        restore();
        count();
        digest();
        CHECK.end("PromiseTests");
    }

    private static void due(String what, long got, long want) {
        CHECK.due(what, got, want);
    }

    private static void write(EdgePicture x, String text) {
        for (char letter : text.toCharArray()) x.letter(letter);
    }

    private static EdgePicture on(String text) {
        EdgePicture x = new EdgePicture();
        write(x, text);
        due("board() of " + text, x.board(), (text.charAt(0) - '0') * (text.charAt(1) - '0'));
        return x;
    }

    /** A refused call answers so and changes nothing. */
    private static void refused(EdgePicture x, String what, long before, long got, long want) {
        due(what, got, want);
        due("digest() behind " + what, x.digest(), before);
    }

    // Promise 1

    private static void newObject() {
        EdgePicture x = new EdgePicture();
        for (int what = 0; what <= 10; what++) due("new: count(" + what + ")", x.count(what), 0);
        due("new: line", x.line(0, 0), UNKNOWN);
        due("new: as", x.as(0, 0), UNKNOWN);
        due("new: cell", x.cell(0, 0), UNKNOWN);
        due("new: keeps", x.keeps(0, 0), UNKNOWN);
        due("new: mark", x.mark(0, 1), UNKNOWN);
        due("new: clue", x.clue(0, 0, 0, 0), UNKNOWN);
        due("new: see", x.see(0, 0, true), UNKNOWN);
        due("new: odds", x.odds(0, 0), UNKNOWN);
        due("new: hints", x.hints(0, 0), UNKNOWN);
        due("new: left", x.left(), STATE);
        due("new: picture", x.picture(0), STATE);
        due("new: look", x.look(), STATE);
        due("new: one", x.one(), STATE);
        due("new: games", x.games(1, 0, 0), STATE);
        due("new: image", x.image(), STATE);
        due("new: restore", x.restore(), STATE);
        due("new: clear", x.clear(), 0);
        due("new: forget", x.forget(), 0);
        due("new: blank", x.blank(), 0);
        due("new: fault", x.fault(), 0);
        due("new: board", x.board(), STATE);
    }

    // Promise 2

    private static void letter() {
        EdgePicture x = new EdgePicture();
        due("letter(1)", x.letter(1), 1);
        due("letter(126)", x.letter(126), 2);
        long before = x.digest();
        for (int code : new int[] {0, 127, -1, 65536 + 50, LOWEST, HIGHEST}) {
            refused(x, "letter(" + code + ")", before, x.letter(code), OUTSIDE);
        }
        for (int size = 3; size <= 36; size++) due("letter " + size, x.letter(50), size);
        before = x.digest();
        refused(x, "letter on a full page", before, x.letter(50), FULL);
        refused(x, "wrong letter on a full page", before, x.letter(0), OUTSIDE);
    }

    // Promise 3

    private static void blank() {
        EdgePicture x = on(SMALL);
        write(x, "22;");
        due("blank()", x.blank(), 3);
        due("blank() again", x.blank(), 0);
        due("count(7) behind blank()", x.count(7), 0);
        due("blank() leaves the board", x.left(), 2);
        due("letter() behind blank()", x.letter(50), 1);
    }

    // Promise 4

    private static void faultOf(String text, int place) {
        EdgePicture x = new EdgePicture();
        write(x, text);
        due("fault() of " + text, x.fault(), place);
        due("fault() leaves the page of " + text, x.count(7), text.length());
    }

    private static void fault() {
        for (String text : new String[] {SMALL, WIDEST, MANY, EACH_KIND}) {
            for (int end = 0; end <= text.length(); end++) faultOf(text.substring(0, end), end);
            faultOf(text + ",", text.length());
            faultOf(text + ";", text.length());
            faultOf(text + "1", text.length());
        }
        EdgePicture x = new EdgePicture();
        for (int end = WIDEST.length(); end >= 0; end--) {
            x.blank();
            write(x, WIDEST.substring(0, end));
            due("fault() knows nothing of letters that are gone", x.fault(), end);
        }
        faultOf("1", 0);
        faultOf("5", 0);
        faultOf("x2;", 0);
        faultOf("21", 1);
        faultOf("45;", 1);
        faultOf("22,", 2);
        faultOf("22;C1", 3);
        faultOf("22;11", 3);
        faultOf("22;c3", 4);
        faultOf("24;c4,l5", 7);
        faultOf("42;c3", 4);
        faultOf("23;c3,c3;c3", 10);
        faultOf("22;c1;", 5);
        faultOf("22;c1,c1,", 8);
        faultOf("22;c1,c1;c1;", 11);
        faultOf("22;r1,", 5);
        faultOf("22;r01", 5);
        faultOf("22;r20,t11", 9);
        faultOf("44;r40,r30,r31", 13);
        faultOf("44;r40,t41", 9);
        faultOf("44;r12,r21,t13", 13);
        faultOf("44;c11", 5);
        faultOf("44;p10", 5);
        faultOf("\u0001", 0);
        faultOf("22;c1,c1;c1,c1" + "~".repeat(22), 14);
    }

    // Promise 5

    private static void board() {
        EdgePicture x = new EdgePicture();
        write(x, "22;c1,c1;c1,c");
        long before = x.digest();
        refused(x, "board() of less than a board", before, x.board(), STATE);
        due("the page stays", x.count(7), 13);
        write(x, "12");
        before = x.digest();
        refused(x, "board() of more than a board", before, x.board(), STATE);
        x.blank();
        write(x, SMALL);
        due("board()", x.board(), 4);
        due("the page is empty", x.count(7), 0);
        due("boards read", x.count(8), 1);
        x.mark(0, 1);
        x.mark(1, 2);
        x.see(0, 1, true);
        x.hints(9, 0);
        x.one();
        before = x.digest();
        refused(x, "board() of an empty page", before, x.board(), STATE);
        write(x, EACH_KIND);
        due("another board()", x.board(), 12);
        due("nothing is marked black", x.count(3), 0);
        due("nothing is marked white", x.count(4), 0);
        due("nothing is seen", x.count(6), 0);
        due("two boards read", x.count(8), 2);
        due("hints() stay counted", x.count(9), 1);
        due("one() stays counted", x.count(10), 1);
        due("its width", x.count(1), 4);
    }

    // Promise 6

    private static void lineNumbers() {
        EdgePicture x = on(EACH_KIND);
        int[][] told = {{0, 2, 0, 4}, {1, 1, 1, 4}, {4, 2, 1, 4}, {3, 1, 0, 3}, {2, 1, 0, 3}, {0, 2, 0, 3}, {1, 1, 0, 3}};
        for (int line = 0; line < told.length; line++) {
            for (int what = 0; what < 4; what++) {
                due("line(" + line + ", " + what + ")", x.line(line, what), told[line][what]);
            }
        }
        long before = x.digest();
        for (int line : new int[] {-1, 7, LOWEST, HIGHEST}) {
            refused(x, "line(" + line + ", 0)", before, x.line(line, 0), UNKNOWN);
            refused(x, "line(" + line + ", 7)", before, x.line(line, 7), UNKNOWN);
        }
        for (int what : new int[] {-1, 7, LOWEST, HIGHEST}) {
            refused(x, "line(0, " + what + ")", before, x.line(0, what), OUTSIDE);
        }
    }

    private static void lineSpare() {
        EdgePicture x = on("22;c2,c0;c1,c1");
        due("spare beside others", x.line(0, 4), 1);
        due("spare beside others, too", x.line(2, 4), 1);
        EdgePicture y = on("22;c1,c0;p2,p0");
        due("not spare, if none fits but for it", y.line(2, 4), 0);
        due("spare, if none fits without it", y.line(1, 4), 1);
        EdgePicture z = on(THREE);
        int[] spare = {1, 0, 1, 0};
        for (int line = 0; line < 4; line++) due("spare " + line, z.line(line, 4), spare[line]);
        z.mark(1, 1);
        z.mark(2, 1);
        due("left with marks", z.left(), 2);
        due("spare with marks", z.line(3, 4), 1);
        due("spare changes nothing", z.left(), 2);
    }

    private static void lineSorts() {
        EdgePicture x = on(EACH_KIND);
        due("sorts of a twin, nothing seen", x.line(2, 5), 31);
        due("try, nothing seen", x.line(2, 6), 3);
        x.see(2, 13, true);
        due("sorts of a twin 2 1, its end first", x.line(2, 5), 4 + 8 + 16);
        due("others are as they were", x.line(1, 5), 31);
        due("try of PARTS, LONG and TWIN", x.line(2, 6), 3);
        x.see(2, 3, false);
        due("sorts but for LONG", x.line(2, 5), 4 + 16);
        due("try of PARTS and TWIN", x.line(2, 6), 5);
        x.see(2, 5, false);
        due("sorts of a twin", x.line(2, 5), 16);
        due("try, if one is left", x.line(2, 6), 0);
        x.see(2, 15, true);
        due("no sorts", x.line(2, 5), 0);
        due("no try", x.line(2, 6), NONE);
        x.clue(2, 0, 4, 0);
        due("sorts by other numbers", x.line(2, 5), 0);
        x.forget();
        due("sorts, forgotten", x.line(2, 5), 31);
    }

    // Promise 7

    private static void as() {
        EdgePicture x = on("33;c1,r11,p1;l1,t11,c0");
        int[] masks = {1, 3, 5, 9, 19, 1};
        for (int line = 0; line < 6; line++) {
            for (int kind = 0; kind < 5; kind++) {
                due("as(" + line + ", " + kind + ")", x.as(line, kind), (masks[line] >> kind & 1) != 0 ? line : NONE);
            }
        }
        long before = x.digest();
        for (int line : new int[] {-1, 6, LOWEST, HIGHEST}) {
            refused(x, "as(" + line + ", 9)", before, x.as(line, 9), UNKNOWN);
        }
        for (int kind : new int[] {-1, 5, LOWEST, HIGHEST}) {
            refused(x, "as(0, " + kind + ")", before, x.as(0, kind), OUTSIDE);
        }
    }

    // Promise 8

    private static void cell() {
        EdgePicture x = on(THREE);
        int[] black = {2, 2, 2, 1};
        due("left", x.left(), 3);
        for (int cell = 0; cell < 4; cell++) {
            due("not marked", x.cell(cell, 0), 0);
            due("black in so many", x.cell(cell, 1), black[cell]);
            due("not sure", x.cell(cell, 2), NONE);
        }
        x.mark(3, 1);
        x.mark(1, 2);
        due("marked black", x.cell(3, 0), 1);
        due("marked white", x.cell(1, 0), 2);
        due("sure black", x.cell(3, 2), 1);
        due("sure black, not marked", x.cell(0, 2), 1);
        due("sure white", x.cell(1, 2), 0);
        due("sure white, not marked", x.cell(2, 2), 0);
        x.mark(0, 2);
        due("none fits: no cell is sure", x.cell(0, 2), NONE);
        due("none fits: black in none", x.cell(0, 1), 0);
        long before = x.digest();
        for (int cell : new int[] {-1, 4, LOWEST, HIGHEST}) {
            refused(x, "cell(" + cell + ", 3)", before, x.cell(cell, 3), UNKNOWN);
        }
        for (int what : new int[] {-1, 3, LOWEST, HIGHEST}) {
            refused(x, "cell(0, " + what + ")", before, x.cell(0, what), OUTSIDE);
        }
    }

    // Promise 9

    private static void keptBy(int kind, int first, int second, int ways) {
        EdgePicture x = on(WIDEST);
        for (int line : new int[] {1, 6}) {
            x.clue(line, kind, first, second);
            for (int cells = 0; cells < 16; cells++) {
                due("kind " + kind + " " + first + " " + second + ": keeps(" + line + ", " + cells + ")",
                        x.keeps(line, cells), ways >> cells & 1);
            }
        }
    }

    private static int ways(int... cells) {
        int all = 0;
        for (int way : cells) all |= 1 << way;
        return all;
    }

    private static void keeps() {
        keptBy(0, 0, 0, ways(0));
        keptBy(0, 2, 0, ways(3, 5, 6, 9, 10, 12));
        keptBy(0, 4, 0, ways(15));
        keptBy(1, 0, 0, ways(0));
        keptBy(1, 1, 0, ways(1, 2, 4, 8));
        keptBy(1, 1, 1, ways(5, 9, 10));
        keptBy(1, 1, 2, ways(13));
        keptBy(1, 2, 1, ways(11));
        keptBy(1, 4, 0, ways(15));
        keptBy(2, 0, 0, ways(0));
        keptBy(2, 1, 0, ways(1, 2, 3, 4, 6, 7, 8, 12, 14, 15));
        keptBy(2, 2, 0, ways(5, 9, 10, 11, 13));
        keptBy(2, 3, 0, ways());
        keptBy(3, 0, 0, ways(0));
        keptBy(3, 1, 0, ways(1, 2, 4, 5, 8, 9, 10));
        keptBy(3, 2, 0, ways(3, 6, 11, 12, 13));
        keptBy(3, 3, 0, ways(7, 14));
        keptBy(4, 0, 0, ways(0));
        keptBy(4, 2, 0, ways(3, 6, 12));
        keptBy(4, 1, 1, ways(5, 9, 10));
        keptBy(4, 1, 2, ways(11, 13));
        keptBy(4, 2, 1, ways(11, 13));
        EdgePicture x = on("24;c1,c1;c1,c1,c1,c1");
        long before = x.digest();
        refused(x, "keeps(6, 99)", before, x.keeps(6, 99), UNKNOWN);
        refused(x, "keeps(-1, 0)", before, x.keeps(-1, 0), UNKNOWN);
        refused(x, "keeps(0, 16)", before, x.keeps(0, 16), OUTSIDE);
        refused(x, "keeps(2, 4)", before, x.keeps(2, 4), OUTSIDE);
        refused(x, "keeps(0, -1)", before, x.keeps(0, -1), OUTSIDE);
        refused(x, "keeps(0, lowest)", before, x.keeps(0, LOWEST), OUTSIDE);
        due("keeps(2, 3)", x.keeps(2, 3), 0);
        due("keeps(0, 8)", x.keeps(0, 8), 1);
    }

    // Promise 10

    private static void mark() {
        EdgePicture x = on(SMALL);
        due("mark black", x.mark(0, 1), 0);
        due("left", x.left(), 1);
        due("mark white", x.mark(0, 2), 1);
        due("picture", x.picture(0), 6);
        due("mark white again", x.mark(0, 2), 2);
        due("mark not", x.mark(0, 0), 2);
        due("mark not again", x.mark(0, 0), 0);
        due("left again", x.left(), 2);
        long before = x.digest();
        for (int cell : new int[] {-1, 4, LOWEST, HIGHEST}) {
            refused(x, "mark(" + cell + ", 3)", before, x.mark(cell, 3), UNKNOWN);
        }
        for (int how : new int[] {-1, 3, LOWEST, HIGHEST}) {
            refused(x, "mark(0, " + how + ")", before, x.mark(0, how), OUTSIDE);
        }
    }

    // Promise 11

    private static void clear() {
        EdgePicture x = on(SMALL);
        x.mark(0, 1);
        x.mark(1, 2);
        x.mark(3, 2);
        x.see(0, 1, true);
        due("left before", x.left(), 0);
        due("clear()", x.clear(), 3);
        due("clear() again", x.clear(), 0);
        due("nothing is marked", x.cell(1, 0), 0);
        due("left", x.left(), 2);
        due("what is seen stays", x.count(6), 1);
    }

    // Promise 12

    private static void clue() {
        EdgePicture x = on("24;c1,t12;c1,c1,c1,c1");
        due("of a clue", x.clue(0, 4, 2, 1), 0);
        due("of a twin", x.clue(0, 2, 4, 0), 4);
        due("of parts", x.clue(0, 3, 0, 0), 2);
        due("of a long", x.clue(0, 1, 4, 0), 3);
        due("of a run", x.clue(0, 0, 4, 0), 1);
        due("its kind then", x.line(0, 0), 0);
        due("its first then", x.line(0, 1), 4);
        due("its second then", x.line(0, 2), 0);
        due("left before", x.left(), 0);
        due("of a twin, too", x.clue(1, 0, 0, 0), 4);
        due("left then", x.left(), 1);
        int[][] wrong = {{0, -1, 0, 0}, {0, 5, 0, 0}, {0, 0, -1, 0}, {0, 0, 5, 0}, {0, 0, 1, 1}, {0, 2, 1, 1},
            {0, 3, 1, 1}, {0, 1, 0, 1}, {0, 4, 0, 1}, {0, 1, 4, 1}, {0, 1, 3, 1}, {0, 1, 2, 2}, {0, 4, 1, 3},
            {0, 1, 1, -1}, {2, 0, 3, 0}, {2, 1, 1, 1}, {2, 1, 3, 0}, {0, HIGHEST, 0, 0}, {0, 1, HIGHEST, HIGHEST},
            {0, 1, 1, HIGHEST}, {0, 1, LOWEST, 0}, {0, 1, 1, LOWEST}};
        long before = x.digest();
        for (int[] w : wrong) {
            refused(x, "clue(" + w[0] + ", " + w[1] + ", " + w[2] + ", " + w[3] + ")", before,
                    x.clue(w[0], w[1], w[2], w[3]), OUTSIDE);
        }
        for (int line : new int[] {-1, 6, LOWEST, HIGHEST}) {
            refused(x, "clue of line " + line, before, x.clue(line, 9, 9, 9), UNKNOWN);
        }
    }

    // Promise 13

    private static void left() {
        due("left of the least board", on(SMALL).left(), 2);
        due("left of most", on(MANY).left(), 1690);
        due("left of none", on("22;c2,c2;c0,c0").left(), 0);
        due("left of runs", on("44;r40,r40,r40,r40;c4,c4,c4,c4").left(), 1);
        due("left of each kind", on(EACH_KIND).left(), 0);
    }

    // Promise 14

    private static void picture() {
        EdgePicture x = on("23;p1,c1;c1,l1,t10");
        due("left", x.left(), 2);
        due("picture(0)", x.picture(0), 14);
        due("picture(1)", x.picture(1), 35);
        due("picture(2)", x.picture(2), NONE);
        due("picture(highest)", x.picture(HIGHEST), NONE);
        long before = x.digest();
        refused(x, "picture(-1)", before, x.picture(-1), OUTSIDE);
        refused(x, "picture(lowest)", before, x.picture(LOWEST), OUTSIDE);
        due("picture(-1) without a board", new EdgePicture().picture(-1), OUTSIDE);
        EdgePicture y = on(MANY);
        int last = -1;
        boolean rising = true;
        for (int number = 0; number < 400; number++) {
            int next = y.picture(number * 4);
            rising &= next > last;
            last = next;
        }
        CHECK.holds("pictures come by numbers", rising);
        due("the last of most", y.picture(1689), 65535);
        due("none behind it", y.picture(1690), NONE);
    }

    // Promise 15

    private static void look() {
        EdgePicture x = on(THREE);
        due("the least of like ones", x.look(), 0);
        x.mark(0, 2);
        due("not one that is marked", x.look(), 1);
        x.mark(1, 1);
        due("one that is not marked", x.look(), 2);
        x.mark(2, 1);
        x.mark(3, 2);
        due("one fits", x.left(), 1);
        due("all are marked", x.look(), NONE);
        x.mark(3, 0);
        due("one fits, one is not marked", x.look(), 3);
        x.mark(2, 2);
        due("none fits", x.left(), 0);
        due("none fits: none to look at", x.look(), NONE);
        due("a sure one is not looked at", on("24;t12,t21;p1,p1,p1,p1").look(), 1);
    }

    // Promise 16

    private static void odds() {
        EdgePicture x = on(THREE);
        due("above", x.odds(0, 0), 2);
        due("below", x.odds(0, 1), 3);
        due("above of another", x.odds(3, 0), 1);
        EdgePicture z = on("44;c1,c1,c1,c1;c1,c1,c1,c1");
        due("left", z.left(), 24);
        due("lowest terms, above", z.odds(5, 0), 1);
        due("lowest terms, below", z.odds(5, 1), 4);
        z.mark(5, 2);
        due("never, above", z.odds(5, 0), 0);
        due("never, below", z.odds(5, 1), 1);
        z.mark(5, 1);
        due("always, above", z.odds(5, 0), 1);
        due("always, below", z.odds(5, 1), 1);
        z.mark(6, 1);
        due("none fits, above", z.odds(0, 0), 0);
        due("none fits, below", z.odds(0, 1), 1);
        long before = z.digest();
        refused(z, "odds(16, 2)", before, z.odds(16, 2), UNKNOWN);
        refused(z, "odds(-1, 0)", before, z.odds(-1, 0), UNKNOWN);
        refused(z, "odds(0, 2)", before, z.odds(0, 2), OUTSIDE);
        refused(z, "odds(0, -1)", before, z.odds(0, -1), OUTSIDE);
    }

    // Promise 17

    private static void hints() {
        EdgePicture x = on("33;c1,c1,c1;c1,c1,c1");
        int crossed = 1 | 1 << 4 | 1 << 8;
        due("how many", x.hints(crossed, 0), 2);
        due("the least", x.hints(crossed, 1), 0);
        due("the second", x.hints(crossed, 2), 4);
        due("no third", x.hints(crossed, 3), NONE);
        x.mark(0, 1);
        due("not one that is marked", x.hints(crossed, 1), 4);
        due("one is enough", x.hints(crossed, 0), 1);
        x.mark(4, 1);
        due("none is needed", x.hints(crossed, 0), 0);
        due("none is needed, so there is no first", x.hints(crossed, 1), NONE);
        long before = x.digest();
        refused(x, "hints(another, 9)", before, x.hints(crossed + 2, 9), UNKNOWN);
        refused(x, "hints(-1, 0)", before, x.hints(-1, 0), UNKNOWN);
        refused(x, "hints(high bits, 0)", before, x.hints(crossed | 1 << 16, 0), UNKNOWN);
        refused(x, "hints(fits, 4)", before, x.hints(crossed, 4), OUTSIDE);
        refused(x, "hints(fits, -1)", before, x.hints(crossed, -1), OUTSIDE);
        due("done so often", x.count(9), 8);
        for (int more = 0; more < 4; more++) due("hints()", x.hints(crossed, 0), 0);
        before = x.digest();
        refused(x, "hints() once more", before, x.hints(crossed, 0), STATE);
        refused(x, "hints(fits, 4) once more", before, x.hints(crossed, 4), OUTSIDE);
        EdgePicture y = on(MANY);
        due("three are not enough", y.hints(65535, 0), NONE);
        due("three are not enough: no first", y.hints(65535, 1), NONE);
        due("both are done", y.count(9), 2);
        due("the picture without black", on("22;c0,c0;c0,c0").hints(0, 0), 0);
        EdgePicture w = on("22;p1,p1;p1,p1");
        due("two, both white", w.hints(6, 0), 2);
        due("the first", w.hints(6, 1), 0);
        due("the second", w.hints(6, 2), 3);
        due("four would be needed", w.hints(15, 0), NONE);
        due("the first of two that are neighbours", on(THREE).hints(7, 1), 0);
        due("the second of two that are neighbours", on(THREE).hints(7, 2), 1);
        EdgePicture z = on("44;c1,c1,c1,c1;c1,c1,c1,c1");
        int slope = 1 << 3 | 1 << 6 | 1 << 9 | 1 << 12;
        due("three", z.hints(slope, 0), 3);
        due("the third", z.hints(slope, 3), 9);
        due("the second", z.hints(slope, 2), 6);
        due("the first, white in it", z.hints(slope, 1), 0);
    }

    // Promise 18

    private static void one() {
        due("just one fits", on("22;c2,c2;c2,c2").one(), -2);
        due("no change is enough", on(SMALL).one(), NONE);
        due("a row's first", on("22;c0,c1;c1,c1").one(), 102);
        due("a kind", on("24;t12,t21;p1,p1,p1,p1").one(), 11);
        due("a column's kind", on("42;c1,c1,c0,c1;c0,r12").one(), 514);
        due("a second that stays", on("42;c1,c0,c1,c0;c0,r21").one(), 501);
        due("a second that is too long goes", on("42;c1,c1,c1,c0;c0,r21").one(), 503);
        due("a second behind 0 goes", on("42;c0,c0,c0,c0;c0,r21").one(), 500);
        EdgePicture v = on("42;c1,c1,c0,c1;c0,r11");
        v.mark(1, 1);
        v.mark(3, 1);
        v.mark(7, 1);
        due("a second that just has room stays", v.one(), 502);
        EdgePicture w = on("22;c2,c2;c2,c1");
        due("the least of several", w.one(), 1);
        for (int cell = 0; cell < 4; cell++) w.mark(cell, 1);
        due("a column's first, by what is marked", w.one(), 302);
        EdgePicture x = on("22;c2,c2;c2,c2");
        for (int done = 1; done <= 6; done++) {
            due("one()", x.one(), -2);
            due("done so often", x.count(10), done);
        }
        long before = x.digest();
        refused(x, "one() once more", before, x.one(), STATE);
        EdgePicture y = on("24;t12,t21;p1,p1,p1,p1");
        before = y.digest();
        y.one();
        due("one() changes no clue", y.line(0, 0), 4);
        due("nor what fits", y.left(), 2);
        due("but how often it was done", y.digest(), before + 1);
        everyOneOfTwoByTwo();
    }

    private static long oneByModel(String text) {
        Model model = new Model();
        for (char letter : text.toCharArray()) model.letter(letter);
        model.board();
        return model.one();
    }

    /** All boards of 2 by 2 with the same kind at its rows, and at its columns. */
    private static void everyOneOfTwoByTwo() {
        String[] kinds = {"c#", "r#0", "p#", "l#", "t#0"};
        for (int code = 0; code < 25 * 81; code++) {
            String row = kinds[code % 5], column = kinds[code / 5 % 5];
            int numbers = code / 25;
            String text = "22;" + row.replace("#", "" + numbers % 3) + "," + row.replace("#", "" + numbers / 3 % 3) + ";"
                    + column.replace("#", "" + numbers / 9 % 3) + "," + column.replace("#", "" + numbers / 27 % 3);
            EdgePicture x = new EdgePicture();
            write(x, text);
            x.board();
            due("one() of " + text, x.one(), oneByModel(text));
        }
    }

    // Promise 19

    private static void see() {
        EdgePicture x = on("24;c1,c1;c1,c1,c1,c1");
        due("seen", x.see(0, 15, false), 1);
        due("seen of another line", x.see(5, 3, true), 2);
        due("seen twice", x.see(5, 3, true), 3);
        due("seen 4", x.see(1, 0, false), 4);
        due("seen 5", x.see(1, 1, true), 5);
        long before = x.digest();
        refused(x, "see(6, 99)", before, x.see(6, 99, true), UNKNOWN);
        refused(x, "see(-1, 0)", before, x.see(-1, 0, true), UNKNOWN);
        refused(x, "see(0, 16)", before, x.see(0, 16, true), OUTSIDE);
        refused(x, "see(2, 4)", before, x.see(2, 4, true), OUTSIDE);
        refused(x, "see(2, -1)", before, x.see(2, -1, true), OUTSIDE);
        due("seen 6", x.see(1, 2, true), 6);
        before = x.digest();
        refused(x, "see() of a seventh", before, x.see(1, 3, true), FULL);
        refused(x, "see() of a wrong seventh", before, x.see(1, 16, true), OUTSIDE);
        due("the fits stay", x.left(), 0);
    }

    // Promise 20

    private static void forget() {
        EdgePicture x = on(SMALL);
        x.mark(0, 1);
        x.see(0, 0, true);
        x.see(1, 0, true);
        due("sorts", x.line(0, 5), 0);
        due("forget()", x.forget(), 2);
        due("forget() again", x.forget(), 0);
        due("sorts then", x.line(0, 5), 31);
        due("marks stay", x.count(3), 1);
        due("see() behind it", x.see(1, 1, true), 1);
        due("what was seen once stays gone", x.line(0, 5), 31);
    }

    // Promise 21

    private static void games() {
        EdgePicture x = on("44;c1,c1,c1,c1;c1,c1,c1,c1");
        due("cells", x.games(10, 7, 0), gamesByModel(10, 7, 0));
        due("quick games", x.games(10, 7, 1), gamesByModel(10, 7, 1));
        due("the seed then", x.games(1, 1, 2), 1103527590L);
        due("the seed of two", x.games(2, 1, 2), (1103515245L * 1103527590L + 12345L) % 2147483648L);
        due("the highest seed", x.games(1, HIGHEST, 2), (1103515245L * HIGHEST + 12345L) % 2147483648L);
        due("games change nothing", x.left(), 24);
        long before = x.digest();
        int[][] wrong = {{0, 0, 0}, {11, 0, 0}, {-1, 0, 0}, {1, -1, 0}, {1, LOWEST, 0}, {1, 0, 3}, {1, 0, -1}};
        for (int[] w : wrong) {
            refused(x, "games(" + w[0] + ", " + w[1] + ", " + w[2] + ")", before, x.games(w[0], w[1], w[2]), OUTSIDE);
        }
        EdgePicture y = on(SMALL);
        due("one cell a game", y.games(10, 3, 0), 10);
        due("all are quick", y.games(10, 3, 1), 10);
        y.mark(0, 1);
        due("just one fits: no cell", y.games(10, 3, 0), 0);
        y.mark(1, 1);
        due("none fits", y.games(10, 3, 0), STATE);
        due("none fits, wrong", y.games(10, 3, 3), OUTSIDE);
        due("more than 200 fit", on(MANY).games(1, 0, 0), STATE);
        due("201 fit", on("44;p1,p1,l2,p1;p1,c2,l1,l1").games(1, 0, 2), STATE);
        due("200 fit", on("44;l1,p1,l1,p1;c2,p1,p1,c2").games(1, 0, 2), 12345);
        EdgePicture z = on("22;p1,p1;p1,p1");
        due("left", z.left(), 7);
        int quick = 0;
        for (int seed = 0; seed < 20; seed++) {
            int cells = z.games(1, seed, 0);
            due("quick, if no more than two", z.games(1, seed, 1), cells <= 2 ? 1 : 0);
            if (cells == 2) quick++;
        }
        CHECK.holds("some games have just two", quick > 0);
    }

    private static long gamesByModel(int times, int seed, int what) {
        Model model = new Model();
        for (char letter : "44;c1,c1,c1,c1;c1,c1,c1,c1".toCharArray()) model.letter(letter);
        model.board();
        return model.games(times, seed, what);
    }

    // Promise 22

    private static void image() {
        EdgePicture x = on(SMALL);
        x.mark(0, 1);
        due("image()", x.image(), 1);
        x.mark(3, 2);
        due("image() later", x.image(), 2);
        x.clear();
        due("the latest is kept", x.restore(), 2);
        due("so it is marked", x.cell(3, 0), 2);
        due("image() without a board", new EdgePicture().image(), STATE);
    }

    // Promise 23

    private static void restore() {
        EdgePicture x = on(SMALL);
        long before = x.digest();
        refused(x, "restore() without an image", before, x.restore(), STATE);
        x.mark(1, 1);
        x.see(0, 1, true);
        long kept = x.digest();
        x.image();
        x.clear();
        x.mark(0, 2);
        x.mark(2, 2);
        x.forget();
        x.see(1, 2, false);
        x.see(1, 1, false);
        x.clue(0, 3, 2, 0);
        x.letter(65);
        due("left before", x.left(), 0);
        due("restore()", x.restore(), 1);
        due("the page is as it was", x.blank(), 1);
        due("all as in the image", x.digest(), kept);
        x.clue(0, 0, 0, 0);
        due("restore() again", x.restore(), 1);
        due("all as in the image again", x.digest(), kept);
        write(x, SMALL);
        x.board();
        before = x.digest();
        refused(x, "restore() on another board", before, x.restore(), STATE);
        x.image();
        due("restore() from an image of it", x.restore(), 0);
        x.letter(65);
        x.board();
        due("restore() behind a refused board()", x.restore(), 0);
    }

    // Promise 24

    private static void count() {
        EdgePicture x = on("24;t12,t21;p1,p1,p1,p1");
        x.mark(0, 1);
        x.mark(1, 2);
        x.mark(2, 1);
        x.see(0, 1, true);
        x.letter(65);
        x.letter(66);
        x.hints(x.picture(0), 0);
        x.hints(x.picture(0), 0);
        x.one();
        int[] told = {2, 4, 6, 2, 1, 8, 1, 2, 1, 2, 1};
        for (int what = 0; what < told.length; what++) due("count(" + what + ")", x.count(what), told[what]);
        x.mark(1, 0);
        x.mark(2, 0);
        due("sure of two", x.count(5), 4);
        x.mark(0, 2);
        due("sure of none", x.count(5), 0);
        long before = x.digest();
        for (int what : new int[] {-1, 11, LOWEST, HIGHEST}) {
            refused(x, "count(" + what + ")", before, x.count(what), OUTSIDE);
        }
    }

    // Promise 25

    private static long fold(long h, int... numbers) {
        long next = h;
        for (int number : numbers) next = 31 * next + number;
        return next;
    }

    private static void digest() {
        EdgePicture x = new EdgePicture();
        due("digest() of a new object", x.digest(), fold(1301, 0, 0, 0, 0, 0, 0, 0, 0, 0, 0, 0));
        x.letter(65);
        x.letter(1);
        due("digest() of letters", x.digest(), fold(1301, 65, 1, 0, 0, 0, 0, 0, 0, 0, 2, 0, 0, 0));
        EdgePicture y = on(SMALL);
        y.letter(50);
        long h = 1301;
        for (int line = 0; line < 4; line++) h = fold(h, 0, 1, 0, 2, 31, 3);
        for (int cell = 0; cell < 4; cell++) h = fold(h, 0, 1, NONE);
        due("digest() of a board", y.digest(), fold(fold(h, 2, 6, 0, 50), 2, 2, 4, 0, 0, 0, 0, 1, 1, 0, 0));
        due("digest() changes nothing", y.digest(), fold(fold(h, 2, 6, 0, 50), 2, 2, 4, 0, 0, 0, 0, 1, 1, 0, 0));
    }
}
