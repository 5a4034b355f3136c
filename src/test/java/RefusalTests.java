import java.util.ArrayList;
import java.util.List;
import java.util.function.ToIntFunction;

/**
 * "Refusals, of several the first as told by each call: UNKNOWN, OUTSIDE, STATE, FULL; they change nothing": for each
 * call and each of its arguments the last value that is taken and the first that is refused, on either side.
 */
public final class RefusalTests {
    private static final int NONE = -1, UNKNOWN = -101, OUTSIDE = -102, STATE = -103, FULL = -104;
    private static final int LOWEST = Integer.MIN_VALUE, HIGHEST = Integer.MAX_VALUE;
    private static final String SMALL = "22;c1,c1;c1,c1";
    // Its lines have 4 cells, if rows, and 2, if columns; lines 0 to 5, cells 0 to 7.
    private static final String FLAT = "24;c2,c2;c1,c1,c1,c1";
    private static final Check CHECK = new Check();

    private record Refusal(String text, int want, ToIntFunction<EdgePicture> call) { }

    public static void main(String[] args) {
        lineNumbers();
        cellNumbers();
        lineWhats();
        asKinds();
        cellWhats();
        keepsCells();
        markHows();
        pictureNumbers();
        oddsWhats();
        hintsPictures();
        hintsWhats();
        hintsTwelveTimes();
        hintsRefusedAreNotDone();
        oneSixTimes();
        seeCells();
        seeSixAtMost();
        gamesTimes();
        gamesSeeds();
        gamesWhats();
        gamesStates();
        imageStates();
        restoreStates();
        countWhats();
        ofANewObject();
        ofAFullObject();
        ofABoardThatNoneFits();
        CHECK.end("RefusalTests");
    }

    private static void due(String what, long got, long want) {
        CHECK.due(what, got, want);
    }

    private static Refusal of(String text, int want, ToIntFunction<EdgePicture> call) {
        return new Refusal(text, want, call);
    }

    /** Each is refused so, and nothing is changed by it. */
    private static void refused(EdgePicture x, Refusal... all) {
        long before = Boards.told(x);
        for (Refusal one : all) {
            due(one.text, one.call.applyAsInt(x), one.want);
            due("all behind " + one.text, Boards.told(x), before);
        }
    }

    private static void taken(String what, int got) {
        CHECK.holds(what + " is taken, but answered " + got, got > UNKNOWN);
    }

    // ---- UNKNOWN: a number names nothing (promises 6 to 10, 12, 16, 19)

    private static void lineNumbers() {
        for (String text : new String[] {SMALL, FLAT, Boards.text(4, 4, "c1", "c1"), Boards.text(3, 2, "c1", "c1")}) {
            EdgePicture x = Boards.on(text);
            int lines = text.charAt(0) + text.charAt(1) - 2 * '0';
            for (int line : new int[] {0, lines - 1}) {
                taken("line(" + line + ", 0)", x.line(line, 0));
                due("as(" + line + ", 0)", x.as(line, 0), line);
                taken("keeps(" + line + ", 0)", x.keeps(line, 0));
                taken("clue of " + line, x.clue(line, 0, 1, 0));
                taken("see of " + line, x.see(line, 1, true));
            }
            for (int line : new int[] {-1, lines, lines + 1, LOWEST, HIGHEST}) {
                refused(x, of("line(" + line + ", 0)", UNKNOWN, e -> e.line(line, 0)),
                        of("as(" + line + ", 0)", UNKNOWN, e -> e.as(line, 0)),
                        of("keeps(" + line + ", 0)", UNKNOWN, e -> e.keeps(line, 0)),
                        of("clue(" + line + ", 0, 0, 0)", UNKNOWN, e -> e.clue(line, 0, 0, 0)),
                        of("see(" + line + ", 0, true)", UNKNOWN, e -> e.see(line, 0, true)));
            }
        }
    }

    private static void cellNumbers() {
        for (String text : new String[] {SMALL, FLAT, Boards.text(4, 4, "c1", "c1"), Boards.text(3, 2, "c1", "c1")}) {
            EdgePicture x = Boards.on(text);
            int cells = (text.charAt(0) - '0') * (text.charAt(1) - '0');
            for (int cell : new int[] {0, cells - 1}) {
                due("cell(" + cell + ", 0)", x.cell(cell, 0), 0);
                due("mark(" + cell + ", 2)", x.mark(cell, 2), 0);
                due("cell(" + cell + ", 0) then", x.cell(cell, 0), 2);
                taken("odds(" + cell + ", 0)", x.odds(cell, 0));
            }
            // 32 more would be the same bit again.
            for (int cell : new int[] {-1, cells, cells + 1, 32, 32 + cells - 1, LOWEST, HIGHEST}) {
                refused(x, of("cell(" + cell + ", 0)", UNKNOWN, e -> e.cell(cell, 0)),
                        of("mark(" + cell + ", 1)", UNKNOWN, e -> e.mark(cell, 1)),
                        of("odds(" + cell + ", 0)", UNKNOWN, e -> e.odds(cell, 0)));
            }
        }
    }

    // ---- Promise 6: "what = 0 .. 6. UNKNOWN; OUTSIDE."

    private static void lineWhats() {
        EdgePicture x = Boards.on(FLAT);
        for (int what = 0; what <= 6; what++) taken("line(5, " + what + ")", x.line(5, what));
        for (int what : new int[] {-1, 7, LOWEST, HIGHEST}) {
            refused(x, of("line(0, " + what + ")", OUTSIDE, e -> e.line(0, what)),
                    of("line(5, " + what + ")", OUTSIDE, e -> e.line(5, what)),
                    of("line(6, " + what + ")", UNKNOWN, e -> e.line(6, what)));
        }
    }

    // ---- Promise 7: "UNKNOWN; OUTSIDE."

    private static void asKinds() {
        EdgePicture x = Boards.on(FLAT);
        due("as(5, 0)", x.as(5, 0), 5);
        due("as(5, 4)", x.as(5, 4), NONE);
        for (int kind : new int[] {-1, 5, LOWEST, HIGHEST}) {
            refused(x, of("as(5, " + kind + ")", OUTSIDE, e -> e.as(5, kind)),
                    of("as(6, " + kind + ")", UNKNOWN, e -> e.as(6, kind)),
                    of("as(-1, " + kind + ")", UNKNOWN, e -> e.as(-1, kind)));
        }
    }

    // ---- Promise 8: "what = 0 .. 2. UNKNOWN; OUTSIDE."

    private static void cellWhats() {
        EdgePicture x = Boards.on(FLAT);
        for (int what = 0; what <= 2; what++) taken("cell(7, " + what + ")", x.cell(7, what));
        for (int what : new int[] {-1, 3, LOWEST, HIGHEST}) {
            refused(x, of("cell(0, " + what + ")", OUTSIDE, e -> e.cell(0, what)),
                    of("cell(7, " + what + ")", OUTSIDE, e -> e.cell(7, what)),
                    of("cell(8, " + what + ")", UNKNOWN, e -> e.cell(8, what)));
        }
    }

    // ---- Promise 9: "OUTSIDE: cells (as many bits as it has CELLS)"

    private static void keepsCells() {
        for (int wide = 2; wide <= 4; wide++) {
            int other = wide == 2 ? 4 : 2;
            EdgePicture x = Boards.on(Boards.text(other, wide, "c2", "c2"));
            EdgePicture y = Boards.on(Boards.text(wide, other, "c2", "c2"));
            int all = (1 << wide) - 1, row = 0, column = wide;
            due("keeps() of no cell", x.keeps(row, 0), 0);
            due("keeps() of no cell", y.keeps(column, 0), 0);
            due("keeps() of all cells", x.keeps(row, all), wide == 2 ? 1 : 0);
            due("keeps() of all cells", y.keeps(column, all), wide == 2 ? 1 : 0);
            for (int cells : new int[] {-1, all + 1, all + 2, LOWEST, LOWEST + 3, HIGHEST, 1 << 16 | 3}) {
                refused(x, of("keeps(row of " + wide + ", " + cells + ")", OUTSIDE, e -> e.keeps(row, cells)),
                        of("keeps(-1, " + cells + ")", UNKNOWN, e -> e.keeps(-1, cells)));
                refused(y, of("keeps(column of " + wide + ", " + cells + ")", OUTSIDE, e -> e.keeps(column, cells)),
                        of("keeps(99, " + cells + ")", UNKNOWN, e -> e.keeps(99, cells)));
            }
        }
    }

    // ---- Promise 10: "1 BLACK, 2 WHITE; 0: it is not any more .. UNKNOWN; OUTSIDE: how"

    private static void markHows() {
        EdgePicture x = Boards.on(FLAT);
        for (int cell : new int[] {0, 7}) {
            for (int was = 0; was <= 2; was++) {
                for (int how = 0; how <= 2; how++) {
                    x.mark(cell, was);
                    due("mark(" + cell + ", " + how + ")", x.mark(cell, how), was);
                    due("cell(" + cell + ", 0) then", x.cell(cell, 0), how);
                }
            }
        }
        for (int how : new int[] {-1, 3, 4, LOWEST, HIGHEST}) {
            refused(x, of("mark(7, " + how + ")", OUTSIDE, e -> e.mark(7, how)),
                    of("mark(6, " + how + ")", OUTSIDE, e -> e.mark(6, how)),
                    of("mark(8, " + how + ")", UNKNOWN, e -> e.mark(8, how)),
                    of("mark(-1, " + how + ")", UNKNOWN, e -> e.mark(-1, how)));
        }
    }

    // ---- Promise 14: "OUTSIDE: number (0 at least); STATE: no BOARD"

    private static void pictureNumbers() {
        EdgePicture x = Boards.on(SMALL);
        due("picture(0)", x.picture(0), 6);
        due("picture(1), the last", x.picture(1), 9);
        due("picture(2)", x.picture(2), NONE);
        due("picture(highest)", x.picture(HIGHEST), NONE);
        for (int number : new int[] {-1, LOWEST}) {
            refused(x, of("picture(" + number + ")", OUTSIDE, e -> e.picture(number)));
            refused(new EdgePicture(), of("picture(" + number + "), no board", OUTSIDE, e -> e.picture(number)));
        }
        refused(new EdgePicture(), of("picture(0), no board", STATE, e -> e.picture(0)),
                of("picture(highest), no board", STATE, e -> e.picture(HIGHEST)));
    }

    // ---- Promise 16: "what = 0 above, 1 below. UNKNOWN; OUTSIDE."

    private static void oddsWhats() {
        EdgePicture x = Boards.on(SMALL);
        due("odds(3, 0)", x.odds(3, 0), 1);
        due("odds(3, 1)", x.odds(3, 1), 2);
        for (int what : new int[] {-1, 2, LOWEST, HIGHEST}) {
            refused(x, of("odds(3, " + what + ")", OUTSIDE, e -> e.odds(3, what)),
                    of("odds(4, " + what + ")", UNKNOWN, e -> e.odds(4, what)),
                    of("odds(-1, " + what + ")", UNKNOWN, e -> e.odds(-1, what)));
        }
    }

    // ---- Promise 17: "UNKNOWN: picture (one that FITS); OUTSIDE; STATE: hints() was done 12 times"

    private static void hintsPictures() {
        EdgePicture x = Boards.on(SMALL);
        for (int picture : new int[] {-1, 0, 5, 7, 8, 10, 15, 16 + 6, LOWEST + 6, HIGHEST}) {
            refused(x, of("hints(" + picture + ", 0)", UNKNOWN, e -> e.hints(picture, 0)),
                    of("hints(" + picture + ", 4)", UNKNOWN, e -> e.hints(picture, 4)));
        }
        due("hints() of the first", x.hints(6, 0), 1);
        due("hints() of the last", x.hints(9, 0), 1);
        x.mark(0, 1);
        refused(x, of("hints() of one that was put out by a mark", UNKNOWN, e -> e.hints(6, 0)));
        due("hints() of the one that is left", x.hints(9, 0), 0);
        due("the picture of no black cell", Boards.on(Boards.text(2, 2, "c0", "c0")).hints(0, 0), 0);
        due("the picture of black cells alone", Boards.on(Boards.text(4, 4, "c4", "c4")).hints(65535, 0), 0);
    }

    private static void hintsWhats() {
        EdgePicture x = Boards.on(SMALL);
        for (int what = 0; what <= 3; what++) taken("hints(6, " + what + ")", x.hints(6, what));
        for (int what : new int[] {-1, 4, LOWEST, HIGHEST}) {
            refused(x, of("hints(6, " + what + ")", OUTSIDE, e -> e.hints(6, what)),
                    of("hints(7, " + what + ")", UNKNOWN, e -> e.hints(7, what)));
        }
        due("done", x.count(9), 4);
    }

    private static void hintsTwelveTimes() {
        EdgePicture x = Boards.on(SMALL);
        for (int done = 1; done <= 12; done++) {
            due("hints() " + done, x.hints(9, done % 2), 1 - done % 2);
            due("done", x.count(9), done);
        }
        refused(x, of("hints() 13", STATE, e -> e.hints(9, 0)), of("hints() 13 of another", STATE, e -> e.hints(6, 3)),
                of("hints(9, 4) behind 12", OUTSIDE, e -> e.hints(9, 4)),
                of("hints(9, -1) behind 12", OUTSIDE, e -> e.hints(9, -1)),
                of("hints(7, 0) behind 12", UNKNOWN, e -> e.hints(7, 0)),
                of("hints(7, 4) behind 12", UNKNOWN, e -> e.hints(7, 4)));
        x.clear();
        x.image();
        x.restore();
        due("nothing but a new object has more", x.hints(9, 0), STATE);
        Boards.read(x, SMALL);
        due("nor has another board", x.hints(9, 0), STATE);
        due("a new one has", Boards.on(SMALL).hints(9, 0), 1);
    }

    private static void hintsRefusedAreNotDone() {
        EdgePicture x = Boards.on(SMALL);
        for (int time = 0; time < 20; time++) {
            x.hints(7, 0);
            x.hints(9, 4);
            x.hints(9, -1);
        }
        due("none is done", x.count(9), 0);
        due("so it answers", x.hints(9, 0), 1);
        EdgePicture y = new EdgePicture();
        for (int time = 0; time < 20; time++) y.hints(0, 0);
        due("none is done without a board", y.count(9), 0);
    }

    // ---- Promise 18: "STATE: no BOARD, or one() was done 6 times"

    private static void oneSixTimes() {
        EdgePicture x = new EdgePicture();
        for (int time = 0; time < 10; time++) refused(x, of("one(), no board", STATE, EdgePicture::one));
        due("none is done without a board", x.count(10), 0);
        Boards.read(x, SMALL);
        for (int done = 1; done <= 6; done++) {
            x.mark(0, done % 2);
            due("one() " + done, x.one(), done % 2 == 1 ? -2 : NONE);
            due("done", x.count(10), done);
        }
        refused(x, of("one() 7", STATE, EdgePicture::one), of("one() 8", STATE, EdgePicture::one));
        Boards.read(x, SMALL);
        due("another board has no more", x.one(), STATE);
        due("a new object has", Boards.on(SMALL).one(), NONE);
    }

    // ---- Promise 19: "UNKNOWN: line; OUTSIDE: cells; FULL"

    private static void seeCells() {
        EdgePicture x = Boards.on(FLAT);
        due("see(0, 0)", x.see(0, 0, true), 1);
        due("see(0, 15)", x.see(0, 15, true), 2);
        due("see(5, 0)", x.see(5, 0, true), 3);
        due("see(5, 3)", x.see(5, 3, true), 4);
        for (int cells : new int[] {-1, 16, LOWEST, HIGHEST}) {
            refused(x, of("see(0, " + cells + ")", OUTSIDE, e -> e.see(0, cells, true)),
                    of("see(1, " + cells + ")", OUTSIDE, e -> e.see(1, cells, false)),
                    of("see(6, " + cells + ")", UNKNOWN, e -> e.see(6, cells, true)));
        }
        for (int cells : new int[] {-1, 4, 15}) {
            refused(x, of("see(2, " + cells + ")", OUTSIDE, e -> e.see(2, cells, true)),
                    of("see(5, " + cells + ")", OUTSIDE, e -> e.see(5, cells, false)));
        }
    }

    private static void seeSixAtMost() {
        EdgePicture x = Boards.on(FLAT);
        for (int seen = 1; seen <= 6; seen++) due("see() " + seen, x.see(0, 3, true), seen);
        refused(x, of("see() 7", FULL, e -> e.see(0, 3, true)), of("see() 7 of another line", FULL, e -> e.see(5, 0, false)),
                of("see(0, 16) as 7", OUTSIDE, e -> e.see(0, 16, true)),
                of("see(2, 4) as 7", OUTSIDE, e -> e.see(2, 4, true)),
                of("see(6, 0) as 7", UNKNOWN, e -> e.see(6, 0, true)),
                of("see(6, 16) as 7", UNKNOWN, e -> e.see(6, 16, true)));
        due("forget() of a full row", x.forget(), 6);
        due("see() then", x.see(0, 3, true), 1);
    }

    // ---- Promise 21: "OUTSIDE: times (1 to 10), seed (0 at least), what; STATE: no BOARD, or none FITS, or more
    // than 200 do"

    private static void gamesTimes() {
        EdgePicture x = Boards.on(SMALL);
        due("games() of 1", x.games(1, 0, 0), 1);
        due("games() of 10", x.games(10, 0, 0), 10);
        for (int times : new int[] {0, 11, -1, LOWEST, HIGHEST}) {
            refused(x, of("games(" + times + ", 0, 0)", OUTSIDE, e -> e.games(times, 0, 0)));
        }
    }

    private static void gamesSeeds() {
        EdgePicture x = Boards.on(SMALL);
        due("games() by seed 0", x.games(1, 0, 2), 12345);
        due("games() by the highest seed", x.games(1, HIGHEST, 2), 1043980748L);
        for (int seed : new int[] {-1, LOWEST}) {
            refused(x, of("games(1, " + seed + ", 0)", OUTSIDE, e -> e.games(1, seed, 0)));
        }
    }

    private static void gamesWhats() {
        EdgePicture x = Boards.on(SMALL);
        for (int what = 0; what <= 2; what++) taken("games(1, 0, " + what + ")", x.games(1, 0, what));
        for (int what : new int[] {-1, 3, LOWEST, HIGHEST}) {
            refused(x, of("games(1, 0, " + what + ")", OUTSIDE, e -> e.games(1, 0, what)));
        }
    }

    private static void gamesStates() {
        EdgePicture none = Boards.on("22;c2,c2;c0,c0");
        EdgePicture full = Boards.on("44;l1,p1,l1,p1;c2,p1,p1,c2");
        EdgePicture over = Boards.on("44;p1,p1,l2,p1;p1,c2,l1,l1");
        due("so many fit", full.left(), 200);
        due("games() of 200", full.games(1, 0, 2), 12345);
        due("one more fits", over.left(), 201);
        for (EdgePicture x : new EdgePicture[] {new EdgePicture(), none, over}) {
            refused(x, of("games(1, 0, 0)", STATE, e -> e.games(1, 0, 0)),
                    of("games(1, 0, 2)", STATE, e -> e.games(1, 0, 2)),
                    of("games(0, 0, 0)", OUTSIDE, e -> e.games(0, 0, 0)),
                    of("games(11, 0, 0)", OUTSIDE, e -> e.games(11, 0, 0)),
                    of("games(1, -1, 0)", OUTSIDE, e -> e.games(1, -1, 0)),
                    of("games(1, 0, 3)", OUTSIDE, e -> e.games(1, 0, 3)),
                    of("games(1, 0, -1)", OUTSIDE, e -> e.games(1, 0, -1)));
        }
        over.mark(over.look(), 1);
        taken("games(), fewer fit by a mark", over.games(1, 0, 0));
    }

    // ---- Promise 22: "STATE: no BOARD"

    private static void imageStates() {
        EdgePicture x = new EdgePicture();
        refused(x, of("image(), no board", STATE, EdgePicture::image), of("restore() then", STATE, EdgePicture::restore));
        Boards.read(x, SMALL);
        refused(x, of("restore() behind an image that was refused", STATE, EdgePicture::restore));
        due("image() of none marked", x.image(), 0);
        for (int cell = 0; cell < 4; cell++) x.mark(cell, 1 + cell % 2);
        due("image() of all marked", x.image(), 4);
    }

    // ---- Promise 23: "STATE: none was kept, or there is another BOARD since"

    private static void restoreStates() {
        EdgePicture x = Boards.on(FLAT);
        x.mark(0, 1);
        refused(x, of("restore(), none was kept", STATE, EdgePicture::restore));
        due("image()", x.image(), 1);
        x.mark(0, 0);
        due("restore()", x.restore(), 1);
        Boards.write(x, FLAT);
        due("restore(), a board is on the page alone", x.restore(), 1);
        due("board()", x.board(), 8);
        x.mark(7, 2);
        refused(x, of("restore(), another board since", STATE, EdgePicture::restore));
        due("image() of that board", x.image(), 1);
        due("restore() from it", x.restore(), 1);
        due("as in that one", x.cell(7, 0), 2);
        due("not as in the first one", x.cell(0, 0), 0);
    }

    // ---- Promise 24: "0 .. 10. OUTSIDE."

    private static void countWhats() {
        for (EdgePicture x : new EdgePicture[] {new EdgePicture(), Boards.on(FLAT)}) {
            for (int what = 0; what <= 10; what++) CHECK.holds("count(" + what + ") is told", x.count(what) >= 0);
            for (int what : new int[] {-1, 11, LOWEST, HIGHEST}) {
                refused(x, of("count(" + what + ")", OUTSIDE, e -> e.count(what)));
            }
        }
    }

    // ---- "they change nothing": all calls, in states in which they are refused

    private static List<Refusal> alwaysRefused() {
        List<Refusal> all = new ArrayList<>();
        for (int wrong : new int[] {-1, 99, LOWEST, HIGHEST}) {
            all.add(of("line(" + wrong + ", " + wrong + ")", UNKNOWN, e -> e.line(wrong, wrong)));
            all.add(of("as(" + wrong + ", " + wrong + ")", UNKNOWN, e -> e.as(wrong, wrong)));
            all.add(of("cell(" + wrong + ", " + wrong + ")", UNKNOWN, e -> e.cell(wrong, wrong)));
            all.add(of("keeps(" + wrong + ", " + wrong + ")", UNKNOWN, e -> e.keeps(wrong, wrong)));
            all.add(of("mark(" + wrong + ", " + wrong + ")", UNKNOWN, e -> e.mark(wrong, wrong)));
            all.add(of("clue(" + wrong + ", ..)", UNKNOWN, e -> e.clue(wrong, wrong, wrong, wrong)));
            all.add(of("odds(" + wrong + ", " + wrong + ")", UNKNOWN, e -> e.odds(wrong, wrong)));
            all.add(of("hints(" + wrong + ", " + wrong + ")", UNKNOWN, e -> e.hints(wrong, wrong)));
            all.add(of("see(" + wrong + ", " + wrong + ")", UNKNOWN, e -> e.see(wrong, wrong, true)));
            all.add(of("games(" + wrong + ", ..)", OUTSIDE, e -> e.games(wrong, wrong, wrong)));
            all.add(of("count(" + wrong + ")", OUTSIDE, e -> e.count(wrong)));
        }
        for (int code : new int[] {0, 127, -1, LOWEST, HIGHEST}) {
            all.add(of("letter(" + code + ")", OUTSIDE, e -> e.letter(code)));
        }
        all.add(of("picture(-1)", OUTSIDE, e -> e.picture(-1)));
        all.add(of("board()", STATE, EdgePicture::board));
        return all;
    }

    private static void ofANewObject() {
        List<Refusal> all = alwaysRefused();
        all.add(of("line(0, 0)", UNKNOWN, e -> e.line(0, 0)));
        all.add(of("line(0, 7)", UNKNOWN, e -> e.line(0, 7)));
        all.add(of("as(0, 0)", UNKNOWN, e -> e.as(0, 0)));
        all.add(of("as(0, 5)", UNKNOWN, e -> e.as(0, 5)));
        all.add(of("cell(0, 0)", UNKNOWN, e -> e.cell(0, 0)));
        all.add(of("keeps(0, 0)", UNKNOWN, e -> e.keeps(0, 0)));
        all.add(of("keeps(0, 16)", UNKNOWN, e -> e.keeps(0, 16)));
        all.add(of("mark(0, 1)", UNKNOWN, e -> e.mark(0, 1)));
        all.add(of("clue(0, 0, 0, 0)", UNKNOWN, e -> e.clue(0, 0, 0, 0)));
        all.add(of("left()", STATE, EdgePicture::left));
        all.add(of("look()", STATE, EdgePicture::look));
        all.add(of("odds(0, 0)", UNKNOWN, e -> e.odds(0, 0)));
        all.add(of("hints(0, 0)", UNKNOWN, e -> e.hints(0, 0)));
        all.add(of("see(0, 0, true)", UNKNOWN, e -> e.see(0, 0, true)));
        all.add(of("restore()", STATE, EdgePicture::restore));
        EdgePicture x = new EdgePicture();
        refused(x, all.toArray(new Refusal[0]));
        due("as of a new object", Boards.told(x), Boards.told(new EdgePicture()));
        Boards.read(x, FLAT);
        due("then it reads a board as a new one does", Boards.told(x), Boards.told(Boards.on(FLAT)));
    }

    /** All that can be full is full, and an image is kept that differs from what is now. */
    private static EdgePicture fullObject() {
        EdgePicture x = Boards.on(FLAT);
        x.mark(0, 1);
        for (int seen = 0; seen < 5; seen++) x.see(seen, 1, true);
        x.image();
        x.clue(0, 1, 1, 1);
        x.mark(2, 1);
        x.mark(6, 2);
        x.see(0, 5, true);
        for (int time = 0; time < 12; time++) x.hints(x.picture(0), 0);
        for (int time = 0; time < 6; time++) x.one();
        Boards.write(x, "24;c1,c1;c1,c1,c1,c1" + "~".repeat(16));
        return x;
    }

    private static void ofAFullObject() {
        EdgePicture x = fullObject(), y = fullObject();
        List<Refusal> all = alwaysRefused();
        int fits = x.picture(0);
        due("some fit", x.hints(fits, 0), STATE);
        all.add(of("hints() 13", STATE, e -> e.hints(fits, 3)));
        all.add(of("hints(fits, 4)", OUTSIDE, e -> e.hints(fits, 4)));
        all.add(of("one() 7", STATE, EdgePicture::one));
        all.add(of("see() 7", FULL, e -> e.see(0, 15, false)));
        all.add(of("see(5, 4)", OUTSIDE, e -> e.see(5, 4, true)));
        all.add(of("letter() 37", FULL, e -> e.letter(50)));
        all.add(of("line(5, 7)", OUTSIDE, e -> e.line(5, 7)));
        all.add(of("as(5, 5)", OUTSIDE, e -> e.as(5, 5)));
        all.add(of("cell(7, 3)", OUTSIDE, e -> e.cell(7, 3)));
        all.add(of("keeps(5, 4)", OUTSIDE, e -> e.keeps(5, 4)));
        all.add(of("mark(7, 3)", OUTSIDE, e -> e.mark(7, 3)));
        all.add(of("clue(0, 1, 2, 2)", OUTSIDE, e -> e.clue(0, 1, 2, 2)));
        all.add(of("clue(5, 0, 3, 0)", OUTSIDE, e -> e.clue(5, 0, 3, 0)));
        all.add(of("clue(5, 5, 0, 0)", OUTSIDE, e -> e.clue(5, 5, 0, 0)));
        all.add(of("odds(7, 2)", OUTSIDE, e -> e.odds(7, 2)));
        refused(x, all.toArray(new Refusal[0]));
        due("as one to which none of these was said", Boards.told(x), Boards.told(y));
        due("the image, too", x.restore(), y.restore());
        due("all as in the image", Boards.told(x), Boards.told(y));
    }

    private static void ofABoardThatNoneFits() {
        EdgePicture x = Boards.on("22;c2,c2;c0,c0");
        List<Refusal> all = alwaysRefused();
        for (int picture : new int[] {0, 3, 12, 15}) {
            all.add(of("hints(" + picture + ", 0)", UNKNOWN, e -> e.hints(picture, 0)));
            all.add(of("hints(" + picture + ", 4)", UNKNOWN, e -> e.hints(picture, 4)));
        }
        all.add(of("games(10, 0, 0)", STATE, e -> e.games(10, 0, 0)));
        all.add(of("games(10, 0, 3)", OUTSIDE, e -> e.games(10, 0, 3)));
        all.add(of("odds(0, 2)", OUTSIDE, e -> e.odds(0, 2)));
        refused(x, all.toArray(new Refusal[0]));
    }
}
