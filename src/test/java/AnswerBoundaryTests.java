import java.math.BigInteger;

/**
 * Of what the document tells of answers (what is KEPT, FITS, is SURE, LOOK to SEEN, GAMES, the IMAGE, digest): each
 * sentence that names a boundary has a method of its own.
 */
public final class AnswerBoundaryTests {
    private static final int NONE = -1, UNKNOWN = -101, STATE = -103;
    private static final int HIGHEST = Integer.MAX_VALUE;
    // Its pictures are 6 and 9.
    private static final String SMALL = "22;c1,c1;c1,c1";
    // Its pictures are 6, 7 and 9.
    private static final String THREE = "22;p1,c1;p1,c1";
    // Its pictures are 6, 7, 9, 11, 13, 14 and 15.
    private static final String SEVEN = "22;p1,p1;p1,p1";
    private static final String MANY = "44;p1,p1,p1,p1;p1,p1,p1,p1";
    private static final String NO_FIT = "22;c2,c2;c0,c0";
    private static final String ALL_WHITE = "44;c0,c0,c0,c0;c0,c0,c0,c0";
    private static final String ALL_BLACK = "44;c4,c4,c4,c4;c4,c4,c4,c4";
    private static final long STEP = 1103515245L, PLUS = 12345L, TURN = 1L << 31;
    private static final Check CHECK = new Check();

    public static void main(String[] args) {
        linesFromRowsToColumns();
        cellsAsBits();
        everyLineKeepsByItsText();
        runsAtTheEndsOfALine();
        runWithoutSecond();
        runAndNoMore();
        twinFromEitherEnd();
        partsUpToMoreThanALineHas();
        longOfNone();
        aTwinIsARun();
        marksThatFit();
        leftOfNoneOneAndMost();
        pictureFirstLastAndBehind();
        sureInAllOrInNone();
        sureIfNoneFits();
        sureIfOneFits();
        blackInHowMany();
        lookOfLikeOnesTheLeast();
        lookIfAllAreMarked();
        lookIfNoneFits();
        lookIfOneFits();
        oddsInLowestTerms();
        oddsIfNoneFits();
        oddsOfNeverAndAlways();
        spareAndOneMore();
        spareIfNoneFits();
        spareEachByItself();
        hintsThreeAtMost();
        hintsOfLikeOnesTheFirst();
        hintsNotMarked();
        hintsOfJustOne();
        oneFirstFromNoneToAll();
        oneSecondThatIsTooLong();
        oneKinds();
        oneOfTheLastLine();
        oneOfLikeOnesTheLeast();
        oneAsItIsAndNone();
        sortsAllAndNone();
        sortsOfTheSeenLineAlone();
        tryOfLikeOnesTheLeast();
        tryOfTheSortsThatAreLeft();
        tryIfThereAreNone();
        clearAndForgetOfNone();
        gamesByTheRestOfTheSeed();
        gamesByTheRestOfTheDraw();
        gamesNoMoreThanTwo();
        gamesOfJustOne();
        gamesGoOnFromMarks();
        imageOfTheLatest();
        imageKeepsCluesMarksAndSeen();
        countSure();
        digestWraps();
        digestWithoutABoard();
        fiveHundredAndTwelveCalls();
        CHECK.end("AnswerBoundaryTests");
    }

    private static void due(String what, long got, long want) {
        CHECK.due(what, got, want);
    }

    private static EdgePicture on(String text) {
        return Boards.on(text);
    }

    private static void markAs(EdgePicture x, int picture, int cells) {
        for (int cell = 0; cell < cells; cell++) x.mark(cell, 2 - (picture >> cell & 1));
    }

    // ---- "LINES are numbered from 0, ROWS first, then COLUMNS"

    private static void linesFromRowsToColumns() {
        for (int high = 2; high <= 4; high++) {
            for (int wide = 2; wide <= 4; wide++) {
                EdgePicture x = on(Boards.text(high, wide, "c1", "p2"));
                due("the first row", x.line(0, 0), 0);
                due("the last row", x.line(high - 1, 0), 0);
                due("the first column", x.line(high, 0), 2);
                due("the last column", x.line(high + wide - 1, 0), 2);
                due("cells of the last row", x.line(high - 1, 3), wide);
                due("cells of the first column", x.line(high, 3), high);
                due("behind the last column", x.line(high + wide, 0), UNKNOWN);
            }
        }
    }

    // ---- "a PICTURE tells of each whether it is BLACK, as bits (CELL 0 is 1, CELL 1 is 2 ..)"

    private static void cellsAsBits() {
        for (int cell = 0; cell < 16; cell++) {
            EdgePicture x = on(ALL_WHITE);
            x.clue(cell / 4, 0, 1, 0);
            x.clue(4 + cell % 4, 0, 1, 0);
            due("one fits", x.left(), 1);
            due("cell " + cell, x.picture(0), 1L << cell);
            due("it is sure", x.cell(cell, 2), 1);
        }
        due("all white", on(ALL_WHITE).picture(0), 0);
        due("all black", on(ALL_BLACK).picture(0), 65535);
        EdgePicture y = on("34;c0,c0,c1;c0,c0,c0,c1");
        due("the last cell of 3 by 4", y.picture(0), 1 << 11);
        EdgePicture z = on("43;c0,c0,c0,c1;c0,c0,c1");
        due("the last cell of 4 by 3", z.picture(0), 1 << 11);
    }

    // ---- what KEEPS a CLUE

    private static String text(int cells, int length) {
        StringBuilder text = new StringBuilder();
        for (int place = 0; place < length; place++) text.append((cells >> place & 1) == 1 ? '#' : '.');
        return text.toString();
    }

    private static boolean reads(String text, int first, int second) {
        if (first == 0) return text.matches("\\.*");
        if (second == 0) return text.matches("\\.*#{" + first + "}\\.*");
        return text.matches("\\.*#{" + first + "}\\.+#{" + second + "}\\.*");
    }

    private static boolean kept(int kind, int first, int second, String text) {
        int runs = 0, longest = 0;
        for (String run : text.split("\\.+")) {
            if (!run.isEmpty()) runs++;
            longest = Math.max(longest, run.length());
        }
        switch (kind) {
            case 0: return text.replace(".", "").length() == first;
            case 1: return reads(text, first, second);
            case 2: return runs == first;
            case 3: return longest == first;
            default: return reads(text, first, second) || reads(new StringBuilder(text).reverse().toString(), first, second);
        }
    }

    private static void everyLineKeepsByItsText() {
        for (int length = 2; length <= 4; length++) {
            EdgePicture x = on(Boards.text(3, length, "c0", "c0"));
            EdgePicture y = on(Boards.text(length, 3, "c0", "c0"));
            for (int kind = 0; kind < 5; kind++) {
                for (int first = 0; first <= length; first++) {
                    for (int second = 0; second <= 2; second++) {
                        if (x.clue(2, kind, first, second) < 0) continue;
                        y.clue(length + 2, kind, first, second);
                        for (int cells = 0; cells < 1 << length; cells++) {
                            String text = text(cells, length);
                            int want = kept(kind, first, second, text) ? 1 : 0;
                            due("kind " + kind + " " + first + " " + second + " by " + text, x.keeps(2, cells), want);
                            due("column " + kind + " " + first + " " + second + " by " + text, y.keeps(length + 2, cells), want);
                        }
                    }
                }
            }
        }
    }

    /** Just these ways of a line of 4 keep the clue. */
    private static void keptBy(int kind, int first, int second, int... ways) {
        EdgePicture x = on(ALL_WHITE);
        due("the clue", x.clue(3, kind, first, second), 0);
        int want = 0, got = 0;
        for (int way : ways) want |= 1 << way;
        for (int cells = 0; cells < 16; cells++) got |= x.keeps(3, cells) << cells;
        due("ways of kind " + kind + " " + first + " " + second, got, want);
    }

    // "A RUN of BLACK is as many BLACK CELLS side by side in a LINE as there are"
    private static void runsAtTheEndsOfALine() {
        keptBy(1, 1, 0, 1, 2, 4, 8);
        keptBy(1, 2, 0, 3, 6, 12);
        keptBy(1, 3, 0, 7, 14);
        keptBy(1, 4, 0, 15);
        keptBy(3, 4, 0, 15);
    }

    // "behind it, one of as many as SECOND (0: none)"
    private static void runWithoutSecond() {
        keptBy(1, 0, 0, 0);
        keptBy(4, 0, 0, 0);
        keptBy(4, 4, 0, 15);
        keptBy(4, 1, 0, 1, 2, 4, 8);
    }

    // ".. and no more"
    private static void runAndNoMore() {
        keptBy(1, 1, 1, 5, 9, 10);
        keptBy(1, 2, 1, 11);
        keptBy(1, 1, 2, 13);
    }

    // "a TWIN, if that is so, read from the one end or from the other"
    private static void twinFromEitherEnd() {
        keptBy(4, 1, 2, 11, 13);
        keptBy(4, 2, 1, 11, 13);
        keptBy(4, 1, 1, 5, 9, 10);
    }

    // "a PARTS, if there are as many RUNS as FIRST tells": no LINE has more than 2
    private static void partsUpToMoreThanALineHas() {
        keptBy(2, 0, 0, 0);
        keptBy(2, 2, 0, 5, 9, 10, 11, 13);
        keptBy(2, 3, 0);
        keptBy(2, 4, 0);
    }

    // "a LONG, if the longest RUN has as many CELLS as FIRST tells (0: none)"
    private static void longOfNone() {
        keptBy(3, 0, 0, 0);
        keptBy(3, 1, 0, 1, 2, 4, 5, 8, 9, 10);
        keptBy(3, 2, 0, 3, 6, 11, 12, 13);
        keptBy(3, 3, 0, 7, 14);
    }

    // "All are CLUES; a TWIN is a RUN, too"
    private static void aTwinIsARun() {
        EdgePicture x = on("23;c1,r10;p1,l1,t10");
        int[] such = {1, 1 | 2, 1 | 4, 1 | 8, 1 | 2 | 16};
        for (int line = 0; line < 5; line++) {
            for (int kind = 0; kind < 5; kind++) {
                due("as(" + line + ", " + kind + ")", x.as(line, kind), (such[line] >> kind & 1) == 1 ? line : NONE);
            }
        }
    }

    // ---- "each CELL that is MARKED BLACK is BLACK, each that is MARKED WHITE is not"

    private static void marksThatFit() {
        EdgePicture x = on(ALL_BLACK);
        markAs(x, 65535, 16);
        due("all marked as they are", x.left(), 1);
        x.mark(15, 2);
        due("the last is not so", x.left(), 0);
        x.mark(15, 0);
        x.mark(0, 2);
        due("the first is not so", x.left(), 0);
        x.mark(0, 0);
        due("not marked", x.left(), 1);
        EdgePicture y = on(ALL_WHITE);
        markAs(y, 0, 16);
        due("all marked white", y.left(), 1);
        y.mark(15, 1);
        due("the last is not white", y.left(), 0);
    }

    // ---- LEFT, and "The so-manieth PICTURE that FITS (from 0, by numbers); NONE: there are not so many"

    private static void leftOfNoneOneAndMost() {
        due("left of none", on(NO_FIT).left(), 0);
        due("left of one", on(ALL_WHITE).left(), 1);
        due("left of two", on(SMALL).left(), 2);
        due("left of most", on(MANY).left(), 1690);
        due("left without a board", new EdgePicture().left(), STATE);
    }

    private static void pictureFirstLastAndBehind() {
        int[] all = {6, 7, 9, 11, 13, 14, 15};
        EdgePicture x = on(SEVEN);
        for (int number = 0; number < 7; number++) due("picture(" + number + ")", x.picture(number), all[number]);
        due("picture(7)", x.picture(7), NONE);
        due("picture(highest)", x.picture(HIGHEST), NONE);
        due("picture(0) of none", on(NO_FIT).picture(0), NONE);
        due("picture(0) that has no black cell", on(ALL_WHITE).picture(0), 0);
        due("picture(1) of one", on(ALL_WHITE).picture(1), NONE);
        EdgePicture y = on(MANY);
        due("picture(1689) of most", y.picture(1689), 65535);
        due("picture(1690) of most", y.picture(1690), NONE);
    }

    // ---- SURE: "which CELLS are BLACK in all of them, or in none (none FITS: no CELL is SURE)"

    private static void sureInAllOrInNone() {
        EdgePicture x = on(THREE);
        due("black in all but one", x.cell(0, 1), 2);
        due("black in all but one: not sure", x.cell(0, 2), NONE);
        due("black in just one", x.cell(3, 1), 1);
        due("black in just one: not sure", x.cell(3, 2), NONE);
        due("none is sure", x.count(5), 0);
        x.mark(1, 1);
        due("two are left", x.left(), 2);
        due("black in all", x.cell(2, 2), 1);
        due("black in none", x.cell(3, 2), 0);
        due("black in one of two", x.cell(0, 2), NONE);
        due("three are sure", x.count(5), 3);
    }

    private static void sureIfNoneFits() {
        EdgePicture x = on(NO_FIT);
        x.mark(0, 1);
        x.mark(1, 2);
        for (int cell = 0; cell < 4; cell++) {
            due("none fits: not sure", x.cell(cell, 2), NONE);
            due("none fits: black in none", x.cell(cell, 1), 0);
        }
        due("none is sure", x.count(5), 0);
    }

    private static void sureIfOneFits() {
        EdgePicture x = on(SMALL);
        x.mark(0, 2);
        int[] sure = {0, 1, 1, 0};
        for (int cell = 0; cell < 4; cell++) due("sure", x.cell(cell, 2), sure[cell]);
        due("all are sure", x.count(5), 4);
    }

    private static void blackInHowMany() {
        EdgePicture x = on(MANY);
        x.mark(15, 1);
        due("black in all that fit", x.cell(15, 1), x.left());
        x.mark(15, 2);
        due("black in none that fits", x.cell(15, 1), 0);
        due("some fit", x.left() > 0 ? 1 : 0, 1);
    }

    // ---- LOOK: "of like ones the least; none, if all are MARKED, or none FITS"

    private static void lookOfLikeOnesTheLeast() {
        EdgePicture x = on(SMALL);
        for (int cell = 0; cell < 4; cell++) {
            due("all are like: the least that is not marked", x.look(), cell);
            x.mark(cell, 2 - (6 >> cell & 1));
        }
        // Each cell is black in 5 of 7; with cell 0 white 6 and 14 are left, which differ in cell 3 alone.
        EdgePicture y = on(SEVEN);
        due("the least of four", y.look(), 0);
        y.mark(0, 2);
        due("not the least, but fewest at worst", y.look(), 3);
        EdgePicture z = on("24;t12,t21;p1,p1,p1,p1");
        due("a cell that is sure is not the least", z.look(), 1);
    }

    private static void lookIfAllAreMarked() {
        EdgePicture x = on(ALL_BLACK);
        markAs(x, 65535, 16);
        due("one fits", x.left(), 1);
        due("all are marked", x.look(), NONE);
        for (int cell = 0; cell < 16; cell++) {
            x.mark(cell, 0);
            due("all but one are marked", x.look(), cell);
            x.mark(cell, 1);
        }
    }

    private static void lookIfNoneFits() {
        due("none fits, nothing is marked", on(NO_FIT).look(), NONE);
        EdgePicture x = on(SMALL);
        x.mark(0, 1);
        x.mark(1, 1);
        due("none fits by what is marked", x.look(), NONE);
        due("no board", new EdgePicture().look(), STATE);
    }

    private static void lookIfOneFits() {
        EdgePicture x = on(ALL_WHITE);
        due("one fits: the least cell", x.look(), 0);
        x.mark(0, 2);
        due("one fits: the least that is not marked", x.look(), 1);
    }

    // ---- ODDS: "in lowest terms (0 of 1, if none FITS)"

    private static void odds(String what, EdgePicture x, int cell, int above, int below) {
        due(what + ": above", x.odds(cell, 0), above);
        due(what + ": below", x.odds(cell, 1), below);
    }

    private static void oddsInLowestTerms() {
        odds("1 of 2", on(SMALL), 0, 1, 2);
        odds("2 of 3", on(THREE), 0, 2, 3);
        odds("1 of 3", on(THREE), 3, 1, 3);
        odds("5 of 7", on(SEVEN), 0, 5, 7);
        odds("6 of 24", on("44;c1,c1,c1,c1;c1,c1,c1,c1"), 15, 1, 4);
        odds("4 of 6", on("33;c2,c2,c2;c2,c2,c2"), 4, 2, 3);
    }

    private static void oddsIfNoneFits() {
        EdgePicture x = on(NO_FIT);
        x.mark(0, 1);
        for (int cell = 0; cell < 4; cell++) odds("none fits", x, cell, 0, 1);
    }

    private static void oddsOfNeverAndAlways() {
        EdgePicture x = on("33;c1,c1,c1;c1,c1,c1");
        x.mark(4, 2);
        due("so many fit", x.left(), 4);
        odds("in none of 4", x, 4, 0, 1);
        x.mark(4, 1);
        due("so many fit", x.left(), 2);
        odds("in all of 2", x, 4, 1, 1);
    }

    // ---- SPARE: "a CLUE without which no more PICTURES FIT (each by itself, all others as they are)"

    private static void spareAndOneMore() {
        // Without the first row's clue 1 and 3 fit, without the first column's 1 alone.
        EdgePicture x = on("22;c1,c0;c1,p0");
        due("one fits", x.left(), 1);
        due("without it no more", x.line(0, 4), 1);
        EdgePicture y = on("22;c1,c0;p1,l1");
        due("none fits", y.left(), 0);
        due("without it just one fits", y.line(0, 4), 0);
        due("without it just one fits, too", y.line(2, 4), 0);
        // Without the last one 6 and 14 fit, where it leaves 6.
        EdgePicture z = on(SEVEN);
        z.mark(0, 2);
        z.clue(3, 0, 1, 0);
        due("one fits", z.left(), 1);
        due("without it just one more", z.line(3, 4), 0);
    }

    private static void spareIfNoneFits() {
        EdgePicture x = on("22;p2,p2;c0,c0");
        due("none fits", x.left(), 0);
        for (int line = 0; line < 4; line++) due("nor without line " + line, x.line(line, 4), 1);
        EdgePicture y = on(SMALL);
        markAs(y, 15, 4);
        for (int line = 0; line < 4; line++) due("nor with all marked", y.line(line, 4), 1);
    }

    private static void spareEachByItself() {
        EdgePicture x = on(ALL_BLACK);
        for (int line = 0; line < 8; line++) due("each is spare beside the others", x.line(line, 4), 1);
        for (int line = 0; line < 4; line++) x.clue(line, 2, 1, 0);
        due("one fits by the columns", x.left(), 1);
        for (int line = 0; line < 4; line++) due("the rows are spare", x.line(line, 4), 1);
        // A cell at the end of a row may be white, one between would make two runs.
        int[] spare = {0, 1, 1, 0};
        for (int column = 0; column < 4; column++) due("column " + column, x.line(4 + column, 4), spare[column]);
    }

    // ---- HINTS: "the fewest CELLS (3 at most) .. how many; which, the least first; of like ones the first; none"

    private static void hintsAre(String what, EdgePicture x, int picture, int... cells) {
        due(what + ": how many", x.hints(picture, 0), cells.length);
        for (int number = 1; number <= 3; number++) {
            int want = number <= cells.length ? cells[number - 1] : NONE;
            due(what + ": cell " + number, x.hints(picture, number), want);
        }
    }

    private static void noHints(EdgePicture x, int picture) {
        for (int what = 0; what <= 3; what++) due("more than three would be needed", x.hints(picture, what), NONE);
        due("they are done", x.count(9), 4);
    }

    private static void hintsThreeAtMost() {
        noHints(on(SEVEN), 15);
        EdgePicture x = on(SEVEN);
        x.mark(0, 1);
        hintsAre("three", x, 15, 1, 2, 3);
        x.mark(1, 1);
        hintsAre("two", x, 15, 2, 3);
        x.mark(2, 1);
        hintsAre("one", x, 15, 3);
        EdgePicture y = on(SEVEN);
        for (int cell = 0; cell < 4; cell++) y.mark(cell, 1);
        hintsAre("all are marked", y, 15);
        noHints(on(MANY), 65535);
        EdgePicture z = on(MANY);
        // Each corner may be white, whatever the others are.
        for (int cell = 1; cell < 15; cell++) {
            if (cell != 3 && cell != 12) z.mark(cell, 1);
        }
        due("four corners", z.hints(65535, 0), NONE);
        z.mark(0, 1);
        hintsAre("three corners", z, 65535, 3, 12, 15);
    }

    private static void hintsOfLikeOnesTheFirst() {
        hintsAre("each cell tells it", on(SMALL), 9, 0);
        hintsAre("0 and any other tell it", on(THREE), 7, 0, 1);
        hintsAre("0 tells it", on(THREE), 6, 0);
        hintsAre("only white cells tell it", on(SEVEN), 6, 0, 3);
        hintsAre("0 and 4 come ahead of 0 and 5", on("33;c1,c1,c1;c1,c1,c1"), 273, 0, 4);
        // As bits 1 and 3 would be less, but compared cell by cell 0 comes first.
        hintsAre("0 and 5 come ahead of 1 and 3", on("33;c1,c1,c1;c1,c1,c1"), 98, 0, 5);
        hintsAre("white 0 comes ahead", on("44;c1,c1,c1,c1;c1,c1,c1,c1"), 4680, 0, 6, 9);
    }

    private static void hintsNotMarked() {
        EdgePicture x = on(SMALL);
        x.mark(0, 0);
        x.mark(1, 0);
        hintsAre("nothing is marked", x, 6, 0);
        EdgePicture y = on(THREE);
        y.mark(1, 1);
        hintsAre("one is marked, 0 tells", y, 7, 0);
        EdgePicture z = on(SEVEN);
        z.mark(1, 1);
        hintsAre("not cell 1, which is marked", z, 15, 0, 2, 3);
    }

    private static void hintsOfJustOne() {
        hintsAre("just one fits", on(ALL_WHITE), 0);
        hintsAre("just one fits, all black", on(ALL_BLACK), 65535);
    }

    // ---- ONE: "its FIRST number (0 to as many CELLS as its LINE has, but as it is ..)"

    private static void oneFirstFromNoneToAll() {
        due("line 0, first 0", on("22;l1,p1;l1,t10").one(), 0);
        due("line 0, first 2 of 2", on("32;c0,t20,t10;l3,l2").one(), 2);
        due("line 0, first 3 of 3", on("23;c2,t10;r10,p1,r10").one(), 3);
        for (int first = 0; first <= 4; first++) {
            EdgePicture x = on(ALL_WHITE);
            int black = (1 << first) - 1;
            for (int column = 0; column < first; column++) x.clue(4 + column, 0, 1, 0);
            markAs(x, black, 16);
            x.clue(0, 0, first == 4 ? 0 : 4, 0);
            due("none fits", x.left(), 0);
            due("first " + first, x.one(), first);
        }
    }

    // "SECOND is 0 then, if both, and 1 between, would be too long, or FIRST is 0"
    private static void oneSecondThatIsTooLong() {
        due("second 1 stays behind 1", on("42;c1,c0,c1,c0;c0,r21").one(), 501);
        due("second 1 goes behind 3", on("42;c1,c1,c1,c0;c0,r21").one(), 503);
        EdgePicture w = on("42;c1,c1,c1,c1;c0,r21");
        markAs(w, 2 | 8 | 32 | 128, 8);
        due("second 1 goes behind 4", w.one(), 504);
        due("second 1 goes behind 0", on("42;c0,c0,c0,c0;c0,r21").one(), 500);
        EdgePicture x = on("42;c1,c1,c0,c1;c0,r11");
        markAs(x, 2 | 8 | 128, 8);
        due("second 1 just has room behind 2", x.one(), 502);
        EdgePicture y = on("42;c1,c1,c0,c0;c0,r12");
        markAs(y, 2 | 8, 8);
        due("second 2 goes behind 2", y.one(), 502);
        EdgePicture z = on("42;c1,c1,c0,c1;c0,r12");
        markAs(z, 2 | 8 | 128, 8);
        due("it does not become 1", z.one(), 514);
    }

    // "or its KIND (another one; SECOND is 0 of a KIND that has none), told as .. 10, and the KIND"
    private static void oneKinds() {
        due("kind 0", on("32;p1,r10,p1;r20,r11").one(), 10);
        due("kind 1", on("23;c2,c2;l2,c1,t10").one(), 11);
        due("kind 2", on("23;r20,r10;l1,c1,c1").one(), 12);
        due("kind 3", on("23;r10,p1;t20,p0,p1").one(), 13);
        due("kind 4", on("42;c1,c1,c0,c1;c0,r12").one(), 514);
        EdgePicture x = on("42;c1,c0,c1,c1;c0,t12");
        due("one fits", x.one(), -2);
        EdgePicture y = on("42;c0,c1,c0,c0;c0,r11");
        markAs(y, 8, 8);
        due("a kind without a second, as its first tells", y.one(), 510);
    }

    private static void oneOfTheLastLine() {
        EdgePicture x = on("44;c4,c4,c4,c4;c4,c4,c4,c0");
        markAs(x, 65535, 16);
        due("the last line, first 4", x.one(), 704);
        EdgePicture y = on("44;c1,c1,c0,c1;c0,c0,c0,r12");
        due("the last line, kind 4", y.one(), 714);
        EdgePicture z = on("44;c0,c0,c0,c0;c0,c0,c0,c1");
        markAs(z, 0, 16);
        due("the last line, first 0", z.one(), 700);
    }

    // "of like ones the least"
    private static void oneOfLikeOnesTheLeast() {
        EdgePicture x = on("22;c2,c2;c2,c1");
        due("a row ahead of a column", x.one(), 1);
        markAs(x, 15, 4);
        due("just the column", x.one(), 302);
        EdgePicture y = on("22;p1,r20;c2,c2");
        due("one fits", y.one(), -2);
        EdgePicture z = on("22;p2,r20;c2,c2");
        due("a first ahead of a kind", z.one(), 1);
    }

    // "none; -2, if just one FITS as it is"
    private static void oneAsItIsAndNone() {
        due("two fit, no change is enough", on(SMALL).one(), NONE);
        due("none fits, no change is enough", on("33;c3,c3,c3;c0,c0,c0").one(), NONE);
        due("just one fits", on(ALL_WHITE).one(), -2);
        EdgePicture x = on(SMALL);
        x.mark(3, 1);
        due("just one fits by a mark", x.one(), -2);
        due("without a board", new EdgePicture().one(), STATE);
    }

    // ---- SORTS: "so that all that is SEEN of it is so"; TRY: "of like ones the least; none, if there are none"

    private static void sortsAllAndNone() {
        EdgePicture x = on(ALL_WHITE);
        for (int line = 0; line < 8; line++) due("nothing is seen: all sorts", x.line(line, 5), 31);
        x.see(7, 0, true);
        due("all sorts keep it", x.line(7, 5), 31);
        x.see(7, 15, true);
        due("no sort keeps it", x.line(7, 5), 0);
        EdgePicture y = on(ALL_BLACK);
        y.see(0, 15, true);
        due("all but PARTS", y.line(0, 5), 31 - 4);
        y.see(0, 15, false);
        due("both can't be", y.line(0, 5), 0);
    }

    private static void sortsOfTheSeenLineAlone() {
        EdgePicture x = on(ALL_WHITE);
        x.see(0, 1, true);
        x.see(7, 8, true);
        due("the first line", x.line(0, 5), 0);
        due("the last line", x.line(7, 5), 0);
        for (int line = 1; line < 7; line++) due("a line between", x.line(line, 5), 31);
    }

    private static void tryOfLikeOnesTheLeast() {
        EdgePicture x = on(ALL_WHITE);
        due("all cells are like: the least", x.line(0, 6), 0);
        EdgePicture y = on("24;r21,c4;c1,c1,c1,c1");
        // Of r21, 13 is kept by a TWIN, a PARTS and a LONG; 3 by a CLUE and a LONG, the least of like ones.
        due("the least that leaves three at worst", y.line(0, 6), 3);
        due("15 alone tells PARTS from the others", y.line(1, 6), 15);
        y.see(1, 0, true);
        due("no sort keeps it", y.line(1, 6), NONE);
    }

    // "fewest of these are left": of the SORTS that it can be of, not of all KINDS
    private static void tryOfTheSortsThatAreLeft() {
        EdgePicture x = on("24;t21,c1;c1,c1,c1,c1");
        x.see(0, 13, true);
        due("PARTS, LONG, TWIN", x.line(0, 5), 4 + 8 + 16);
        due("3 is kept by LONG alone of these", x.line(0, 6), 3);
        x.see(0, 3, false);
        due("PARTS, TWIN", x.line(0, 5), 4 + 16);
        due("5 is kept by PARTS alone of these", x.line(0, 6), 5);
        EdgePicture y = on("24;t21,c1;c1,c1,c1,c1");
        y.see(0, 11, true);
        y.see(0, 5, false);
        due("RUN, LONG, TWIN", y.line(0, 5), 2 + 8 + 16);
        due("3 is kept by LONG alone of these, too", y.line(0, 6), 3);
        y.see(0, 3, false);
        due("RUN, TWIN", y.line(0, 5), 2 + 16);
        due("13 is kept by TWIN alone of these", y.line(0, 6), 13);
    }

    private static void tryIfThereAreNone() {
        EdgePicture x = on("24;t21,c1;c1,c1,c1,c1");
        x.see(0, 13, true);
        x.see(0, 3, false);
        x.see(0, 5, false);
        due("one sort is left", x.line(0, 5), 16);
        due("one sort is left: the least cells", x.line(0, 6), 0);
        x.see(0, 15, true);
        due("no sort is left", x.line(0, 5), 0);
        due("no sort is left: none", x.line(0, 6), NONE);
        x.forget();
        due("forgotten: all sorts", x.line(0, 5), 31);
        due("forgotten: cells to try", x.line(0, 6), 3);
    }

    // ---- Promises 11 and 20: "how many CELLS were", "how much was"

    private static void clearAndForgetOfNone() {
        EdgePicture x = on(ALL_BLACK);
        due("clear() of none", x.clear(), 0);
        due("forget() of none", x.forget(), 0);
        markAs(x, 0x5555, 16);
        due("clear() of all", x.clear(), 16);
        due("clear() again", x.clear(), 0);
        due("nothing is marked", x.count(3) + x.count(4), 0);
        for (int seen = 0; seen < 6; seen++) x.see(0, 1, true);
        due("forget() of all", x.forget(), 6);
        due("forget() again", x.forget(), 0);
    }

    // ---- GAMES: "1103515245 times it and 12345, its rest by 2 to the 31; then that by 65536 (rounded down), its rest"

    /** The seed whose next one is this. */
    private static int seedBefore(long next) {
        BigInteger turn = BigInteger.valueOf(TURN);
        BigInteger back = BigInteger.valueOf(STEP).modInverse(turn);
        return back.multiply(BigInteger.valueOf(next - PLUS)).mod(turn).intValueExact();
    }

    private static void gamesByTheRestOfTheSeed() {
        EdgePicture x = on(SMALL);
        due("from 0", x.games(1, 0, 2), PLUS);
        due("from 1", x.games(1, 1, 2), 1103527590L);
        for (long next : new long[] {0, 1, 65535, 65536, TURN - 1}) {
            due("the seed then is " + next, x.games(1, seedBefore(next), 2), next);
        }
        long seed = HIGHEST;
        for (int times = 1; times <= 10; times++) {
            seed = BigInteger.valueOf(STEP).multiply(BigInteger.valueOf(seed)).add(BigInteger.valueOf(PLUS))
                    .mod(BigInteger.valueOf(TURN)).longValueExact();
            due("the seed of " + times + " games", x.games(times, HIGHEST, 2), seed);
        }
    }

    /** How many cells are looked at, by marks on an object of its own. */
    private static int looks(String text, int picture) {
        EdgePicture x = on(text);
        int looked = 0;
        while (x.left() > 1) {
            int cell = x.look();
            x.mark(cell, 2 - (picture >> cell & 1));
            looked++;
        }
        return looked;
    }

    private static void gamesByTheRestOfTheDraw() {
        for (String text : new String[] {THREE, SEVEN, "44;c1,c1,c1,c1;c1,c1,c1,c1", "44;l1,p1,l1,p1;c2,p1,p1,c2"}) {
            EdgePicture x = on(text);
            int count = x.left();
            int most = (int) (TURN / 65536 - 1);
            for (int draw : new int[] {0, 1, count - 1, count, count + 1, 2 * count - 1, 2 * count, most - 1, most}) {
                int want = looks(text, x.picture(draw % count));
                due("draw " + draw + " of " + count, x.games(1, seedBefore(draw * 65536L), 0), want);
                due("the last of draw " + draw, x.games(1, seedBefore(draw * 65536L + 65535), 0), want);
            }
        }
    }

    // "in how many games no more than two"
    private static void gamesNoMoreThanTwo() {
        // How many cells each of its pictures needs, by numbers.
        int[] looks = {2, 4, 3, 3, 3, 2, 4};
        EdgePicture x = on(SEVEN);
        for (int number = 0; number < 7; number++) {
            int seed = seedBefore(number * 65536L);
            due("cells of picture " + number, x.games(1, seed, 0), looks[number]);
            due("no more than two", x.games(1, seed, 1), looks[number] <= 2 ? 1 : 0);
        }
        EdgePicture y = on(THREE);
        due("one and two at most: all ten", y.games(10, 5, 1), 10);
    }

    // "till just one FITS"
    private static void gamesOfJustOne() {
        EdgePicture x = on(ALL_WHITE);
        due("just one fits: no cell", x.games(10, 3, 0), 0);
        due("all games have no more than two", x.games(10, 3, 1), 10);
        due("each game has a draw", x.games(1, 0, 2), PLUS);
        EdgePicture y = on(SMALL);
        due("two fit: a cell each", y.games(10, 3, 0), 10);
    }

    private static void gamesGoOnFromMarks() {
        EdgePicture x = on(SEVEN);
        x.mark(0, 1);
        long before = Boards.told(x);
        int count = x.left();
        due("so many fit", count, 5);
        for (int number = 0; number < count; number++) {
            int seed = seedBefore(number * 65536L);
            EdgePicture y = on(SEVEN);
            y.mark(0, 1);
            int hidden = y.picture(number), looked = 0;
            for (; y.left() > 1; looked++) {
                int cell = y.look();
                y.mark(cell, 2 - (hidden >> cell & 1));
            }
            due("cells from a mark on", x.games(1, seed, 0), looked);
        }
        due("as they would be: nothing is changed", Boards.told(x), before);
    }

    // ---- Promise 22: "An IMAGE is kept (one; the latest): how many CELLS were MARKED"

    private static void imageOfTheLatest() {
        EdgePicture x = on(ALL_BLACK);
        due("image() of none marked", x.image(), 0);
        markAs(x, 65535, 16);
        due("image() of all marked", x.image(), 16);
        x.clear();
        due("restore() of the latest", x.restore(), 16);
        due("restore() again", x.restore(), 16);
        x.clear();
        due("image() of none again", x.image(), 0);
        x.mark(0, 1);
        due("restore() of that", x.restore(), 0);
        due("nothing is marked", x.count(3), 0);
    }

    private static void imageKeepsCluesMarksAndSeen() {
        EdgePicture x = on(SMALL);
        x.clue(3, 4, 2, 0);
        x.mark(3, 2);
        for (int cells = 0; cells < 6; cells++) x.see(3, cells % 4, cells == 3);
        due("sorts", x.line(3, 5), 1 + 2 + 8 + 16);
        long before = Boards.told(x);
        x.image();
        x.clue(3, 0, 1, 0);
        x.clear();
        x.forget();
        for (int seen = 0; seen < 5; seen++) x.see(2, 3, seen != 3);
        due("so many fit", x.left(), 2);
        due("restore()", x.restore(), 1);
        due("all is as it was", Boards.told(x), before);
        due("what is seen is full again", x.see(0, 0, true), -104);
        x.letter(50);
        x.one();
        x.hints(0, 0);
        due("restore() leaves the page", x.restore(), 1);
        due("letters", x.count(7), 1);
        due("boards read", x.count(8), 1);
        due("one() done", x.count(10), 1);
    }

    // ---- Promise 24: "5 that are SURE"

    private static void countSure() {
        due("of no board", new EdgePicture().count(5), 0);
        due("all", on(ALL_WHITE).count(5), 16);
        due("none", on(SMALL).count(5), 0);
        due("none fits", on(NO_FIT).count(5), 0);
    }

    // ---- Promise 25: "as longs, wrapping"

    private static BigInteger fold(BigInteger h, long number) {
        return h.multiply(BigInteger.valueOf(31)).add(BigInteger.valueOf(number));
    }

    /** Without a wrap; its lowest 64 bits are due. */
    private static BigInteger wholeDigest(EdgePicture x, String page) {
        BigInteger h = BigInteger.valueOf(1301);
        for (int line = 0; line < x.count(2); line++) {
            for (int what : new int[] {0, 1, 2, 3, 5, 6}) h = fold(h, x.line(line, what));
        }
        for (int cell = 0; cell < x.count(0) * x.count(1); cell++) {
            for (int what = 0; what <= 2; what++) h = fold(h, x.cell(cell, what));
        }
        if (x.count(2) > 0) h = fold(fold(fold(h, x.left()), x.picture(0)), x.look());
        for (char letter : page.toCharArray()) h = fold(h, letter);
        for (int what = 0; what <= 10; what++) h = fold(h, x.count(what));
        return h;
    }

    private static void digestWraps() {
        for (String text : new String[] {SMALL, THREE, NO_FIT, ALL_WHITE, MANY}) {
            EdgePicture x = on(text);
            x.mark(0, 1);
            x.see(1, 1, true);
            BigInteger whole = wholeDigest(x, "");
            CHECK.holds("it is longer than a long", whole.bitLength() > 64);
            due("digest() of " + text, x.digest(), whole.longValue());
            String page = "\u0001~" + "2".repeat(34);
            Boards.write(x, page);
            due("digest() with a full page", x.digest(), wholeDigest(x, page).longValue());
        }
    }

    private static void digestWithoutABoard() {
        EdgePicture x = new EdgePicture();
        due("digest() of a new object", x.digest(), 1301L * BigInteger.valueOf(31).pow(11).longValue());
        x.letter(126);
        due("digest() of a letter", x.digest(), wholeDigest(x, "~").longValue());
        x.blank();
        due("digest() of an empty page", x.digest(), new EdgePicture().digest());
    }

    // ---- "An object is used for at most 512 calls after it has been made"

    private static void fiveHundredAndTwelveCalls() {
        EdgePicture x = on(MANY);
        // blank(), 26 letters and board() were 28 calls.
        for (int call = 29; call <= 508; call += 4) {
            int cell = call / 4 % 16;
            due("mark() as call " + call, x.mark(cell, 1), 0);
            due("picture() as call " + (call + 1), x.picture(HIGHEST), NONE);
            due("cell() as call " + (call + 2), x.cell(cell, 2), 1);
            due("clear() as call " + (call + 3), x.clear(), 1);
        }
        due("left() as call 509", x.left(), 1690);
        due("see() as call 510", x.see(7, 15, true), 1);
        due("one() as call 511", x.one(), NONE);
        due("picture() as call 512", x.picture(1689), 65535);
    }
}
