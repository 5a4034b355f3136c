/**
 * Of what the document tells of texts (what a BOARD is, what numbers a CLUE has, THE PAGE): each sentence that
 * names a boundary has a method of its own, with the last that is taken and the first that is not.
 */
public final class TextBoundaryTests {
    private static final int UNKNOWN = -101, OUTSIDE = -102, STATE = -103, FULL = -104;
    private static final int LOWEST = Integer.MIN_VALUE, HIGHEST = Integer.MAX_VALUE;
    private static final int MOST_CODE = 126, MOST_LETTERS = 36;
    private static final String SMALL = "22;c1,c1;c1,c1";
    private static final String LONGEST = "44;r11,r11,r11,r11;t21,t21,t21,t21";
    private static final Check CHECK = new Check();

    public static void main(String[] args) {
        highTwoToFour();
        wideTwoToFour();
        twoDigits();
        signsBetween();
        asManyRowsAsHigh();
        asManyColumnsAsWide();
        kindsByLetter();
        firstUpToTheCellsOfItsLine();
        secondOfRunAndTwinAlone();
        secondWithinTheLine();
        everyClueOfEveryLengthIsRead();
        longestBoard();
        letterCodes();
        letterAboveThirtySix();
        wrongLetterOnFullPage();
        blankOfEmptyAndFull();
        blankLeavesNoLetter();
        faultOfNone();
        faultAtFirstAndLast();
        faultOfFirstAlone();
        faultChangesNothing();
        boardOfEmptyPage();
        boardOfHalfAndMore();
        boardRefusedKeepsTheOther();
        boardEmptiesPage();
        boardOfOtherSizeIsGone();
        boardOfSameTextIsAnother();
        noCellMarkedAtFirst();
        clueKinds();
        clueFirsts();
        clueSeconds();
        CHECK.end("TextBoundaryTests");
    }

    private static void due(String what, long got, long want) {
        CHECK.due(what, got, want);
    }

    /** The text is no board, and the letter at this place is the first that no board has there. */
    private static void noBoard(String text, int place) {
        EdgePicture x = new EdgePicture();
        Boards.write(x, text);
        due("fault() of " + text, x.fault(), place);
        due("board() of " + text, x.board(), STATE);
        due("letters then of " + text, x.count(7), text.length());
    }

    private static void isBoard(String text, int cells) {
        EdgePicture x = new EdgePicture();
        Boards.write(x, text);
        due("fault() of " + text, x.fault(), text.length());
        due("board() of " + text, x.board(), cells);
    }

    /** Behind the text, just these letters go on to a board. */
    private static void takesBehind(String text, String taken) {
        EdgePicture x = new EdgePicture();
        for (int code = 1; code <= MOST_CODE; code++) {
            Boards.page(x, text);
            x.letter(code);
            int place = taken.indexOf(code) < 0 ? text.length() : text.length() + 1;
            due("fault() of " + text + " and code " + code, x.fault(), place);
        }
    }

    // ---- "two digits, how HIGH and how WIDE it is (2 to 4 each)"

    private static void highTwoToFour() {
        takesBehind("", "234");
        noBoard(Boards.text(1, 2, "c1", "c1"), 0);
        noBoard(Boards.text(5, 2, "c1", "c1"), 0);
        for (int high = 2; high <= 4; high++) {
            EdgePicture x = Boards.on(Boards.text(high, 3, "c1", "c1"));
            due("how high", x.count(0), high);
            due("rows and columns", x.count(2), high + 3);
        }
    }

    private static void wideTwoToFour() {
        for (int high = 2; high <= 4; high++) takesBehind("" + high, "234");
        noBoard(Boards.text(2, 1, "c1", "c1"), 1);
        noBoard(Boards.text(2, 5, "c1", "c1"), 1);
        for (int wide = 2; wide <= 4; wide++) {
            EdgePicture x = Boards.on(Boards.text(3, wide, "c1", "c1"));
            due("how wide", x.count(1), wide);
            due("rows and columns", x.count(2), 3 + wide);
        }
    }

    private static void twoDigits() {
        for (int high = 2; high <= 4; high++) {
            for (int wide = 2; wide <= 4; wide++) {
                isBoard(Boards.text(high, wide, "c1", "c1"), high * wide);
                noBoard("" + high + wide + wide + Boards.text(high, wide, "c1", "c1").substring(2), 2);
            }
        }
        noBoard("2;c1,c1;c1,c1", 1);
    }

    // ---- "';'; as many CLUES with ',' between"

    private static void signsBetween() {
        takesBehind("22", ";");
        takesBehind("22;c1", ",");
        takesBehind("22;c1,c1", ";");
        takesBehind("22;c1,c1;c1", ",");
        takesBehind("22;c1,c1;c1,c1", "");
        takesBehind("24;r11", ",");
        takesBehind("24;r11,t20", ";");
    }

    private static void asManyRowsAsHigh() {
        for (int high = 2; high <= 4; high++) {
            String columns = ";c1,c1";
            String less = high + "2;c1" + ",c1".repeat(high - 2);
            noBoard(less + columns, less.length());
            isBoard(less + ",c1" + columns, 2 * high);
            noBoard(less + ",c1,c1" + columns, less.length() + 3);
        }
    }

    private static void asManyColumnsAsWide() {
        for (int wide = 2; wide <= 4; wide++) {
            String less = "2" + wide + ";c1,c1;c1" + ",c1".repeat(wide - 2);
            noBoard(less, less.length());
            noBoard(less + ",", less.length() + 1);
            isBoard(less + ",c1", 2 * wide);
            noBoard(less + ",c1,c1", less.length() + 3);
            noBoard(less + ",c1,", less.length() + 3);
        }
    }

    // ---- "KINDS are told by the letter: 0 CLUE c, 1 RUN r, 2 PARTS p, 3 LONG l, 4 TWIN t"

    private static void kindsByLetter() {
        takesBehind("22;", "crplt");
        takesBehind("22;c1,", "crplt");
        takesBehind("22;c1,c1;", "crplt");
        takesBehind("22;c1,c1;c1,", "crplt");
        String[] texts = {"c1", "r10", "p1", "l1", "t10"};
        for (int kind = 0; kind < 5; kind++) {
            EdgePicture x = Boards.on("22;" + texts[kind] + ",c1;c1," + texts[kind]);
            due("kind by " + texts[kind], x.line(0, 0), kind);
            due("kind of the last by " + texts[kind], x.line(3, 0), kind);
        }
    }

    // ---- "its FIRST number, 0 to as many CELLS as its LINE has"

    private static String digits(int most) {
        return "01234".substring(0, most + 1);
    }

    /** A board's text up to the first clue of its rows, or of its columns, of so many cells. */
    private static String upToLine(int cells, boolean row) {
        // The other side differs, so that taking its length would show.
        int other = cells == 2 ? 4 : 2;
        return row ? "" + other + cells + ";" : cells + "" + other + ";c1" + ",c1".repeat(cells - 1) + ";";
    }

    private static void firstUpToTheCellsOfItsLine() {
        for (int cells = 2; cells <= 4; cells++) {
            for (String kind : new String[] {"c", "r", "p", "l", "t"}) {
                takesBehind(upToLine(cells, true) + kind, digits(cells));
                takesBehind(upToLine(cells, false) + kind, digits(cells));
            }
        }
    }

    // ---- "of a RUN or a TWIN one more digit, its SECOND number"

    private static void secondOfRunAndTwinAlone() {
        for (int first = 0; first <= 4; first++) {
            for (String kind : new String[] {"c", "p", "l"}) takesBehind("44;" + kind + first, ",");
            for (String kind : new String[] {"r", "t"}) noBoard("44;" + kind + first + ",", 5);
        }
        noBoard("22;c1,c1;c1,r1", 14);
        isBoard("22;c1,c1;c1,r10", 4);
    }

    // ---- "0 at least, and no more than keeps both, and 1 between, within the LINE (0, if the FIRST is 0)"

    private static int mostSecond(int cells, int first) {
        int[][] most = {{0, 0, 0}, {0, 1, 0, 0}, {0, 2, 1, 0, 0}};
        return most[cells - 2][first];
    }

    private static void secondWithinTheLine() {
        for (int cells = 2; cells <= 4; cells++) {
            for (int first = 0; first <= cells; first++) {
                for (String kind : new String[] {"r", "t"}) {
                    takesBehind(upToLine(cells, true) + kind + first, digits(mostSecond(cells, first)));
                    takesBehind(upToLine(cells, false) + kind + first, digits(mostSecond(cells, first)));
                }
            }
        }
    }

    private static void everyClueOfEveryLengthIsRead() {
        String kinds = "crplt";
        for (int cells = 2; cells <= 4; cells++) {
            for (int kind = 0; kind < 5; kind++) {
                for (int first = 0; first <= cells; first++) {
                    boolean two = kind == 1 || kind == 4;
                    for (int second = 0; second <= (two ? mostSecond(cells, first) : 0); second++) {
                        String clue = "" + kinds.charAt(kind) + first + (two ? "" + second : "");
                        EdgePicture x = Boards.on(Boards.text(2, cells, clue, "c0"));
                        due("kind of " + clue, x.line(1, 0), kind);
                        due("first of " + clue, x.line(1, 1), first);
                        due("second of " + clue, x.line(1, 2), second);
                        due("cells of its line", x.line(1, 3), cells);
                        due("second of a plain clue", x.line(2, 2), 0);
                    }
                }
            }
        }
    }

    private static void longestBoard() {
        due("letters of the longest", LONGEST.length(), 34);
        isBoard(LONGEST, 16);
        noBoard(LONGEST + ",,", 34);
        noBoard(LONGEST + "r", 34);
        noBoard(LONGEST + "0", 34);
    }

    // ---- Promise 2: "OUTSIDE: code (1 to 126); FULL: above 36"

    private static void letterCodes() {
        EdgePicture x = new EdgePicture();
        for (int code = 1; code <= MOST_LETTERS; code++) due("letter(" + code + ")", x.letter(code), code);
        x.blank();
        for (int code = 91; code <= MOST_CODE; code++) due("letter(" + code + ")", x.letter(code), code - 90);
        EdgePicture y = new EdgePicture();
        long before = Boards.told(y);
        // Codes that are a good letter, if just their lowest bits are taken.
        for (int code : new int[] {0, -1, 127, 128, 256 + 50, 65536 + 50, -206, LOWEST, LOWEST + 50, HIGHEST}) {
            due("letter(" + code + ")", y.letter(code), OUTSIDE);
            due("all behind letter(" + code + ")", Boards.told(y), before);
        }
    }

    private static void letterAboveThirtySix() {
        EdgePicture x = new EdgePicture();
        for (int size = 1; size <= MOST_LETTERS; size++) due("letter " + size, x.letter(50), size);
        long before = Boards.told(x);
        due("letter 37", x.letter(50), FULL);
        due("letter 37 again", x.letter(51), FULL);
        due("all behind it", Boards.told(x), before);
        due("letters", x.count(7), MOST_LETTERS);
    }

    private static void wrongLetterOnFullPage() {
        EdgePicture x = new EdgePicture();
        for (int size = 1; size <= MOST_LETTERS; size++) x.letter(50);
        due("letter(0) on a full page", x.letter(0), OUTSIDE);
        due("letter(127) on a full page", x.letter(127), OUTSIDE);
        due("letter(1) on a full page", x.letter(1), FULL);
        due("letter(126) on a full page", x.letter(126), FULL);
    }

    // ---- Promise 3: "THE PAGE is empty: how many letters it had"

    private static void blankOfEmptyAndFull() {
        EdgePicture x = new EdgePicture();
        due("blank() of an empty page", x.blank(), 0);
        x.letter(50);
        due("blank() of one letter", x.blank(), 1);
        for (int size = 1; size <= MOST_LETTERS; size++) x.letter(50);
        due("blank() of a full page", x.blank(), MOST_LETTERS);
        due("blank() once more", x.blank(), 0);
        due("the first letter then", x.letter(51), 1);
        due("fault() knows the new letter alone", x.fault(), 1);
    }

    private static void blankLeavesNoLetter() {
        EdgePicture x = new EdgePicture();
        for (String text : new String[] {SMALL, LONGEST, "34;c2,r11,t21;l1,p1,c2,r10"}) {
            for (int size = text.length() - 1; size >= 0; size--) {
                Boards.page(x, text);
                due("fault() of the whole", x.fault(), text.length());
                Boards.page(x, text.substring(0, size));
                due("fault() of " + size + " letters, more were there", x.fault(), size);
                due("board() of " + size + " letters, more were there", x.board(), STATE);
            }
        }
    }

    // ---- Promise 4: "how many letters it has, if there is none"

    private static void faultOfNone() {
        due("fault() of an empty page", new EdgePicture().fault(), 0);
        for (String text : new String[] {SMALL, LONGEST}) {
            EdgePicture x = new EdgePicture();
            for (int size = 1; size <= text.length(); size++) {
                x.letter(text.charAt(size - 1));
                due("fault() of " + size + " letters", x.fault(), size);
            }
        }
    }

    private static void faultAtFirstAndLast() {
        noBoard("c", 0);
        noBoard(";" + SMALL, 0);
        noBoard("22;c1,c1;c1,c3", 13);
        noBoard("44;r11,r11,r11,r11;t21,t21,t21,t22", 33);
        noBoard("\u0001".repeat(MOST_LETTERS), 0);
        noBoard("~".repeat(MOST_LETTERS), 0);
    }

    private static void faultOfFirstAlone() {
        noBoard("22;c1,x;c9,r", 6);
        noBoard("22;c3,c3;c3,c3", 4);
        noBoard("15" + SMALL.substring(2), 0);
    }

    private static void faultChangesNothing() {
        EdgePicture x = Boards.on(SMALL);
        x.mark(0, 1);
        x.see(0, 1, true);
        Boards.write(x, LONGEST);
        long before = x.digest();
        due("fault()", x.fault(), 34);
        due("fault() again", x.fault(), 34);
        due("all behind it", x.digest(), before);
    }

    // ---- Promise 5: "STATE: it is none"

    private static void boardOfEmptyPage() {
        EdgePicture x = new EdgePicture();
        long before = Boards.told(x);
        due("board() of an empty page", x.board(), STATE);
        due("all behind it", Boards.told(x), before);
        due("still none", x.left(), STATE);
    }

    private static void boardOfHalfAndMore() {
        for (int size = 0; size < SMALL.length(); size++) noBoard(SMALL.substring(0, size), size);
        isBoard(SMALL, 4);
        noBoard(SMALL + ";", SMALL.length());
        noBoard(SMALL + " ", SMALL.length());
    }

    private static void boardRefusedKeepsTheOther() {
        EdgePicture x = Boards.on(SMALL);
        x.mark(0, 1);
        x.see(3, 2, false);
        x.image();
        x.mark(3, 1);
        // Read up to its last letter but one, it has all of another board.
        Boards.write(x, "34;c2,r11,t21;l1,p1,c2,r1");
        long before = Boards.told(x);
        due("board() of less", x.board(), STATE);
        due("all behind it", Boards.told(x), before);
        due("letters", x.count(7), 25);
        due("restore() still has the image", x.restore(), 1);
    }

    private static void boardEmptiesPage() {
        EdgePicture x = Boards.on(LONGEST);
        due("letters behind board()", x.count(7), 0);
        due("fault() then", x.fault(), 0);
        due("board() then", x.board(), STATE);
        due("the first letter then", x.letter(50), 1);
    }

    // ---- Promise 5: "another one is gone, with all that was"

    private static void boardOfOtherSizeIsGone() {
        EdgePicture x = Boards.on(LONGEST);
        for (int cell = 0; cell < 16; cell++) x.mark(cell, 1 + cell % 2);
        for (int line = 0; line < 6; line++) x.see(line, 15, true);
        x.image();
        Boards.read(x, SMALL);
        due("black", x.count(3), 0);
        due("white", x.count(4), 0);
        due("seen", x.count(6), 0);
        due("left", x.left(), 2);
        due("a line that is gone", x.line(4, 0), UNKNOWN);
        due("a cell that is gone", x.cell(4, 0), UNKNOWN);
        due("the cells of its lines", x.keeps(0, 4), OUTSIDE);
        due("the image is gone", x.restore(), STATE);
        due("boards read", x.count(8), 2);
        Boards.read(x, LONGEST);
        due("no mark comes back", x.count(3) + x.count(4), 0);
        for (int line = 0; line < 8; line++) due("sorts", x.line(line, 5), 31);
    }

    private static void boardOfSameTextIsAnother() {
        EdgePicture x = Boards.on(SMALL);
        x.mark(0, 1);
        x.see(0, 0, true);
        x.clue(0, 3, 2, 0);
        x.image();
        Boards.read(x, SMALL);
        due("restore() behind the same text", x.restore(), STATE);
        due("its mark is gone", x.cell(0, 0), 0);
        due("its clue is gone", x.line(0, 0), 0);
        due("what was seen is gone", x.line(0, 5), 31);
    }

    // ---- "At first there is none; then no CELL is MARKED"

    private static void noCellMarkedAtFirst() {
        EdgePicture x = new EdgePicture();
        due("no board: high", x.count(0), 0);
        due("no board: wide", x.count(1), 0);
        due("no board: lines", x.count(2), 0);
        due("no board: no line", x.line(0, 3), UNKNOWN);
        due("no board: no cell", x.cell(0, 0), UNKNOWN);
        due("no board: clear()", x.clear(), 0);
        Boards.read(x, LONGEST);
        for (int cell = 0; cell < 16; cell++) due("marked", x.cell(cell, 0), 0);
        due("clear()", x.clear(), 0);
    }

    // ---- Promise 12: "OUTSIDE: kind (0 to 4), first, second (as a text may tell them of that LINE and KIND;
    // 0 of a KIND that has none)"

    private static void clueIs(int line, int kind, int first, int second, boolean taken) {
        EdgePicture x = Boards.on("24;c1,p1;c1,c1,c1,c1");
        x.see(line, 1, true);
        long before = Boards.told(x);
        String call = "clue(" + line + ", " + kind + ", " + first + ", " + second + ")";
        int was = x.line(line, 0);
        due(call, x.clue(line, kind, first, second), taken ? was : OUTSIDE);
        if (taken) {
            due("kind by " + call, x.line(line, 0), kind);
            due("first by " + call, x.line(line, 1), first);
            due("second by " + call, x.line(line, 2), second);
        } else {
            due("all behind " + call, Boards.told(x), before);
        }
    }

    private static void clueKinds() {
        for (int kind : new int[] {LOWEST, -1, 0, 1, 2, 3, 4, 5, HIGHEST}) {
            for (int line : new int[] {0, 1, 2, 5}) clueIs(line, kind, 0, 0, kind >= 0 && kind <= 4);
        }
    }

    private static void clueFirsts() {
        for (int kind = 0; kind < 5; kind++) {
            for (int first : new int[] {LOWEST, -1, 0, 1, 2, 3, 4, 5, HIGHEST}) {
                clueIs(1, kind, first, 0, first >= 0 && first <= 4);
                clueIs(2, kind, first, 0, first >= 0 && first <= 2);
            }
        }
    }

    private static void clueSeconds() {
        for (int kind = 0; kind < 5; kind++) {
            boolean two = kind == 1 || kind == 4;
            for (int second : new int[] {LOWEST, -1, 0, 1, 2, 3, 4, 5, HIGHEST}) {
                for (int first = 0; first <= 4; first++) {
                    clueIs(0, kind, first, second, second >= 0 && second <= (two ? mostSecond(4, first) : 0));
                }
                for (int first = 0; first <= 2; first++) clueIs(5, kind, first, second, second == 0);
            }
        }
    }
}
