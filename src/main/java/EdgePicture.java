/**
 * Pictures told by their edges: a small board of black and white cells with a clue at each row and
 * each column. The words in capitals are those of the document.
 */
public final class EdgePicture {
    public static final int NONE = -1, UNKNOWN = -101, OUTSIDE = -102, STATE = -103, FULL = -104;

    private static final int LEAST_SIDE = 2, MOST_SIDE = 4;
    private static final int MOST_LINES = 2 * MOST_SIDE, MOST_CELLS = MOST_SIDE * MOST_SIDE;
    private static final int MOST_LETTERS = 36, MOST_CODE = 126;
    private static final int MOST_SEEN = 6, MOST_HINTS = 3;
    private static final int HINTS_LIMIT = 12, ONE_LIMIT = 6;
    private static final int MOST_GAMES = 10, MOST_GAME_FITS = 200, FEW_LOOKS = 2;
    // A BOARD of 4 by 4 with PARTS 1 at each LINE; no BOARD has more, as a test counts.
    private static final int MOST_FITS = 1690;

    private static final int UNMARKED = 0, BLACK = 1, WHITE = 2;
    private static final int RUN = 1, PARTS = 2, LONG = 3, TWIN = 4, KINDS = 5;
    private static final String KIND_LETTERS = "crplt";

    private static final int ONE_AS_IT_IS = -2;
    private static final int KIND_CHANGE = 10, LINE_STEP = 100;
    private static final int COUNTS = 11;
    private static final long DIGEST_START = 1301L, DIGEST_STEP = 31L;

    private final Page page = new Page();
    private final Table now = new Table();
    private final Table kept = new Table();
    private final Table draft = new Table();
    private final Search search = new Search();
    private final Fits fits = new Fits(MOST_FITS);
    private final Fits game = new Fits(MOST_GAME_FITS);
    private boolean stale;
    private boolean imageStands;
    private int boardsRead;
    private int hintsDone;
    private int onesDone;

    public EdgePicture() {
    }

    // ---- the board

    public int letter(int code) {
        if (code < 1 || code > MOST_CODE) return OUTSIDE;
        if (page.size >= MOST_LETTERS) return FULL;
        page.add(code);
        return page.size;
    }

    public int blank() {
        int had = page.size;
        page.size = 0;
        return had;
    }

    public int fault() {
        page.readInto(draft);
        return page.place;
    }

    public int board() {
        if (!page.readInto(draft)) return STATE;
        now.copyFrom(draft);
        page.size = 0;
        boardsRead++;
        imageStands = false;
        stale = true;
        return now.cells();
    }

    public int line(int line, int what) {
        if (!now.hasLine(line)) return UNKNOWN;
        switch (what) {
            case 0: return now.kinds[line];
            case 1: return now.firsts[line];
            case 2: return now.seconds[line];
            case 3: return now.length(line);
            case 4: return isSpare(line) ? 1 : 0;
            case 5: return now.sorts(line);
            case 6: return now.nextTry(line);
            default: return OUTSIDE;
        }
    }

    public int as(int line, int kind) {
        if (!now.hasLine(line)) return UNKNOWN;
        if (!Kinds.isKind(kind)) return OUTSIDE;
        return Kinds.isSuch(now.kinds[line], kind) ? line : NONE;
    }

    public int cell(int cell, int what) {
        if (!now.hasCell(cell)) return UNKNOWN;
        switch (what) {
            case 0: return now.howMarked(cell);
            case 1: return settled().blackIn(cell);
            case 2: return settled().sure(cell);
            default: return OUTSIDE;
        }
    }

    public int keeps(int line, int cells) {
        if (!now.hasLine(line)) return UNKNOWN;
        if (!now.hasCellsOf(line, cells)) return OUTSIDE;
        return Kinds.isKept(now.kinds[line], now.firsts[line], now.seconds[line], cells) ? 1 : 0;
    }

    // ---- what is done

    public int mark(int cell, int how) {
        if (!now.hasCell(cell)) return UNKNOWN;
        if (how < UNMARKED || how > WHITE) return OUTSIDE;
        int was = now.howMarked(cell);
        now.setMark(cell, how);
        stale = true;
        return was;
    }

    public int clear() {
        int were = now.markedCells();
        now.unmarkAll();
        stale = true;
        return were;
    }

    public int clue(int line, int kind, int first, int second) {
        if (!now.hasLine(line)) return UNKNOWN;
        if (!Kinds.allows(now.length(line), kind, first, second)) return OUTSIDE;
        int was = now.kinds[line];
        now.setClue(line, kind, first, second);
        stale = true;
        return was;
    }

    // ---- what would be

    public int left() {
        if (!now.isBoard()) return STATE;
        return settled().size;
    }

    public int picture(int number) {
        if (number < 0) return OUTSIDE;
        if (!now.isBoard()) return STATE;
        return settled().at(number);
    }

    public int look() {
        if (!now.isBoard()) return STATE;
        return settled().bestLook(now.cells(), now.marked());
    }

    public int odds(int cell, int what) {
        if (!now.hasCell(cell)) return UNKNOWN;
        if (what < 0 || what > 1) return OUTSIDE;
        int above = settled().blackIn(cell);
        int below = fits.size;
        int shared = commonDivisor(above, below);
        if (shared < 1) return what == 0 ? 0 : 1;
        return (what == 0 ? above : below) / shared;
    }

    public int hints(int picture, int what) {
        if (!now.isBoard() || !settled().holds(picture)) return UNKNOWN;
        if (what < 0 || what > MOST_HINTS) return OUTSIDE;
        if (hintsDone >= HINTS_LIMIT) return STATE;
        hintsDone++;
        int cells = fewestHints(picture);
        if (cells == NONE) return NONE;
        return what == 0 ? Integer.bitCount(cells) : cellAt(cells, what);
    }

    public int one() {
        if (!now.isBoard() || onesDone >= ONE_LIMIT) return STATE;
        onesDone++;
        if (settled().size == 1) return ONE_AS_IT_IS;
        for (int line = 0; line < now.lines(); line++) {
            int change = changeToOne(line);
            if (change != NONE) return LINE_STEP * line + change;
        }
        return NONE;
    }

    // ---- what is seen

    public int see(int line, int cells, boolean keeps) {
        if (!now.hasLine(line)) return UNKNOWN;
        if (!now.hasCellsOf(line, cells)) return OUTSIDE;
        if (now.seen >= MOST_SEEN) return FULL;
        now.addSeen(line, cells, keeps);
        return now.seen;
    }

    public int forget() {
        int was = now.seen;
        now.seen = 0;
        return was;
    }

    public int games(int times, int seed, int what) {
        if (times < 1 || times > MOST_GAMES || seed < 0 || what < 0 || what > 2) return OUTSIDE;
        if (!now.isBoard()) return STATE;
        int count = settled().size;
        if (count < 1 || count > MOST_GAME_FITS) return STATE;
        long next = seed;
        int looks = 0;
        int quick = 0;
        for (int played = 0; played < times; played++) {
            next = nextSeed(next);
            int looked = playGame(fits.at((int) (next / 65536 % count)));
            looks += looked;
            if (looked <= FEW_LOOKS) quick++;
        }
        if (what == 0) return looks;
        return what == 1 ? quick : (int) next;
    }

    // ---- what is told of all

    public int image() {
        if (!now.isBoard()) return STATE;
        kept.copyFrom(now);
        imageStands = true;
        return kept.markedCells();
    }

    public int restore() {
        if (!imageStands) return STATE;
        now.copyFrom(kept);
        stale = true;
        return now.markedCells();
    }

    public int count(int what) {
        switch (what) {
            case 0: return now.high;
            case 1: return now.wide;
            case 2: return now.lines();
            case 3: return Integer.bitCount(now.black);
            case 4: return Integer.bitCount(now.white);
            case 5: return sureCells();
            case 6: return now.seen;
            case 7: return page.size;
            case 8: return boardsRead;
            case 9: return hintsDone;
            case 10: return onesDone;
            default: return OUTSIDE;
        }
    }

    public long digest() {
        long h = DIGEST_START;
        for (int line = 0; line < now.lines(); line++) {
            for (int what = 0; what <= 6; what++) {
                if (what != 4) h = DIGEST_STEP * h + line(line, what);
            }
        }
        for (int cell = 0; cell < now.cells(); cell++) {
            for (int what = 0; what <= 2; what++) h = DIGEST_STEP * h + cell(cell, what);
        }
        if (now.isBoard()) {
            h = DIGEST_STEP * h + left();
            h = DIGEST_STEP * h + picture(0);
            h = DIGEST_STEP * h + look();
        }
        for (int place = 0; place < page.size; place++) h = DIGEST_STEP * h + page.codeAt(place);
        for (int what = 0; what < COUNTS; what++) h = DIGEST_STEP * h + count(what);
        return h;
    }

    // ---- helpers

    /** The PICTURES that FIT, found anew only if something has changed since they were last asked. */
    private Fits settled() {
        if (stale) {
            search.take(now);
            fits.empty();
            search.run(MOST_FITS, fits);
            stale = false;
        }
        return fits;
    }

    private boolean isSpare(int line) {
        int count = settled().size;
        int anyCells = Kinds.anyCells(now.length(line));
        return search.countWith(line, anyCells, count + 1) == count;
    }

    private int sureCells() {
        int sure = 0;
        for (int cell = 0; cell < now.cells(); cell++) {
            if (settled().sure(cell) != NONE) sure++;
        }
        return sure;
    }

    private static int commonDivisor(int above, int below) {
        int divisor = below;
        int rest = above;
        // Each step at least halves every second number, so 64 steps are enough for any int.
        for (int step = 0; step < 64 && rest != 0; step++) {
            int next = divisor % rest;
            divisor = rest;
            rest = next;
        }
        return divisor;
    }

    private int fewestHints(int picture) {
        for (int size = 0; size <= MOST_HINTS; size++) {
            int cells = growHints(picture, 0, 0, size);
            if (cells != NONE) return cells;
        }
        return NONE;
    }

    /** The first CELLS by numbers, so many more from one on, that tell the PICTURE; depth: more. */
    private int growHints(int picture, int chosen, int from, int more) {
        if (more > MOST_HINTS) return NONE;
        if (more < 1) return fits.tells(picture, chosen) ? chosen : NONE;
        for (int cell = from; cell < now.cells(); cell++) {
            if (now.howMarked(cell) != UNMARKED) continue;
            int cells = growHints(picture, chosen | 1 << cell, cell + 1, more - 1);
            if (cells != NONE) return cells;
        }
        return NONE;
    }

    private static int cellAt(int cells, int number) {
        int passed = 0;
        for (int cell = 0; cell < MOST_CELLS; cell++) {
            if ((cells >> cell & 1) != 0) passed++;
            if (passed == number) return cell;
        }
        return NONE;
    }

    /** The least change of a LINE's CLUE after which just one PICTURE FITS; NONE. */
    private int changeToOne(int line) {
        if (!now.hasLine(line)) return NONE;
        int length = now.length(line);
        int kind = now.kinds[line];
        int first = now.firsts[line];
        int second = now.seconds[line];
        for (int number = 0; number <= length; number++) {
            int behind = second > Kinds.mostSecond(length, number) ? 0 : second;
            if (number != first && leavesOne(line, kind, number, behind)) return number;
        }
        for (int other = 0; other < KINDS; other++) {
            int behind = Kinds.hasSecond(other) ? second : 0;
            if (other != kind && leavesOne(line, other, first, behind)) return KIND_CHANGE + other;
        }
        return NONE;
    }

    private boolean leavesOne(int line, int kind, int first, int second) {
        int keeping = Kinds.keeping(now.length(line), kind, first, second);
        return search.countWith(line, keeping, 2) == 1;
    }

    private static long nextSeed(long seed) {
        return (1103515245L * seed + 12345L) % (1L << 31);
    }

    /** How many CELLS are looked at till just the hidden PICTURE FITS. */
    private int playGame(int hidden) {
        int marked = now.marked();
        int looked = 0;
        game.copyFrom(fits);
        while (game.size > 1 && looked < MOST_CELLS) {
            int cell = game.bestLook(now.cells(), marked);
            if (cell == NONE) return looked;
            marked |= 1 << cell;
            game.keepLike(hidden, cell);
            looked++;
        }
        return looked;
    }

    /** THE PAGE, and the reading of it as a BOARD. */
    private static final class Page {
        final char[] letters = new char[MOST_LETTERS];
        int size;
        // Where the reading stopped: the first letter that no BOARD has there, or the end.
        int place;

        void add(int code) {
            if (size >= letters.length) return;
            letters[size] = (char) code;
            size++;
        }

        int codeAt(int where) {
            return where >= 0 && where < letters.length ? letters[where] : 0;
        }

        /** Whether THE PAGE is a BOARD, just that; the table has its CLUES and nothing else then. */
        boolean readInto(Table table) {
            place = 0;
            table.forgetAll();
            int high = readNumber(LEAST_SIDE, MOST_SIDE);
            if (high < 0) return false;
            int wide = readNumber(LEAST_SIDE, MOST_SIDE);
            if (wide < 0) return false;
            table.high = high;
            table.wide = wide;
            for (int line = 0; line < high + wide; line++) {
                char ahead = line == 0 || line == high ? ';' : ',';
                if (!readSign(ahead) || !readClue(table, line)) return false;
            }
            return place == size;
        }

        private boolean readClue(Table table, int line) {
            int length = table.length(line);
            int kind = readKind();
            if (kind < 0) return false;
            int first = readNumber(0, length);
            if (first < 0) return false;
            int second = 0;
            if (Kinds.hasSecond(kind)) second = readNumber(0, Kinds.mostSecond(length, first));
            if (second < 0) return false;
            table.setClue(line, kind, first, second);
            return true;
        }

        private int readNumber(int least, int most) {
            if (place >= size) return NONE;
            int number = codeAt(place) - '0';
            if (number < least || number > most) return NONE;
            place++;
            return number;
        }

        private int readKind() {
            if (place >= size) return NONE;
            int kind = KIND_LETTERS.indexOf((char) codeAt(place));
            if (kind >= 0) place++;
            return kind;
        }

        private boolean readSign(char sign) {
            if (place >= size || codeAt(place) != sign) return false;
            place++;
            return true;
        }
    }

    /** The KINDS of CLUES: what they may tell, and what KEEPS them. */
    private static final class Kinds {
        private Kinds() {
        }

        static boolean isKind(int kind) {
            return kind >= 0 && kind < KINDS;
        }

        static boolean isSuch(int kind, int asked) {
            return asked == 0 || asked == kind || asked == RUN && kind == TWIN;
        }

        static boolean hasSecond(int kind) {
            return isSuch(kind, RUN);
        }

        static int mostSecond(int length, int first) {
            return first == 0 ? 0 : Math.max(0, length - first - 1);
        }

        static boolean allows(int length, int kind, int first, int second) {
            if (!isKind(kind) || first < 0 || first > length) return false;
            return second >= 0 && second <= (hasSecond(kind) ? mostSecond(length, first) : 0);
        }

        /** All ways in which the CELLS of a LINE can be BLACK, each way a bit. */
        static int anyCells(int length) {
            return (1 << (1 << length)) - 1;
        }

        /** Of these, the ways that KEEP the CLUE. */
        static int keeping(int length, int kind, int first, int second) {
            int ways = 0;
            for (int cells = 0; cells < 1 << length; cells++) {
                if (isKept(kind, first, second, cells)) ways |= 1 << cells;
            }
            return ways;
        }

        static boolean isKept(int kind, int first, int second, int cells) {
            int runs = 0;
            int ahead = 0;
            int behind = 0;
            int longest = 0;
            int run = 0;
            // One place beyond the longest LINE, so that a RUN at its end is counted, too.
            for (int place = 0; place <= MOST_SIDE; place++) {
                if ((cells >> place & 1) != 0) {
                    run++;
                } else if (run > 0) {
                    if (runs == 0) ahead = run;
                    else behind = run;
                    runs++;
                    if (run > longest) longest = run;
                    run = 0;
                }
            }
            // A LINE of 4 CELLS has no room for a third RUN, so the two tell all.
            boolean reads = ahead == first && behind == second;
            switch (kind) {
                case RUN: return reads;
                case PARTS: return runs == first;
                case LONG: return longest == first;
                case TWIN: return reads || ahead == second && behind == first;
                default: return Integer.bitCount(cells) == first;
            }
        }
    }

    /** What an IMAGE keeps: CLUES, what is MARKED, what is SEEN. */
    private static final class Table {
        int high;
        int wide;
        final int[] kinds = new int[MOST_LINES];
        final int[] firsts = new int[MOST_LINES];
        final int[] seconds = new int[MOST_LINES];
        // Which CELLS are MARKED so, as bits.
        int black;
        int white;
        final int[] seenLines = new int[MOST_SEEN];
        final int[] seenCells = new int[MOST_SEEN];
        final boolean[] seenKeeps = new boolean[MOST_SEEN];
        int seen;

        void forgetAll() {
            high = 0;
            wide = 0;
            seen = 0;
            unmarkAll();
        }

        void copyFrom(Table other) {
            high = other.high;
            wide = other.wide;
            black = other.black;
            white = other.white;
            seen = other.seen;
            for (int line = 0; line < MOST_LINES; line++) {
                kinds[line] = other.kinds[line];
                firsts[line] = other.firsts[line];
                seconds[line] = other.seconds[line];
            }
            for (int number = 0; number < MOST_SEEN; number++) {
                seenLines[number] = other.seenLines[number];
                seenCells[number] = other.seenCells[number];
                seenKeeps[number] = other.seenKeeps[number];
            }
        }

        boolean isBoard() {
            return high > 0;
        }

        int lines() {
            return high + wide;
        }

        int cells() {
            return high * wide;
        }

        boolean hasLine(int line) {
            return line >= 0 && line < lines() && line < MOST_LINES;
        }

        boolean hasCell(int cell) {
            return cell >= 0 && cell < cells();
        }

        int length(int line) {
            return line < high ? wide : high;
        }

        boolean hasCellsOf(int line, int cells) {
            return cells >= 0 && cells < 1 << length(line);
        }

        void setClue(int line, int kind, int first, int second) {
            if (!hasLine(line)) return;
            kinds[line] = kind;
            firsts[line] = first;
            seconds[line] = second;
        }

        int marked() {
            return black | white;
        }

        int markedCells() {
            return Integer.bitCount(marked());
        }

        int howMarked(int cell) {
            if ((black >> cell & 1) != 0) return BLACK;
            return (white >> cell & 1) != 0 ? WHITE : UNMARKED;
        }

        void setMark(int cell, int how) {
            int bit = 1 << cell;
            black &= ~bit;
            white &= ~bit;
            if (how == BLACK) black |= bit;
            if (how == WHITE) white |= bit;
        }

        void unmarkAll() {
            black = 0;
            white = 0;
        }

        void addSeen(int line, int cells, boolean keeps) {
            if (seen >= MOST_SEEN) return;
            seenLines[seen] = line;
            seenCells[seen] = cells;
            seenKeeps[seen] = keeps;
            seen++;
        }

        int sorts(int line) {
            int sorts = 0;
            for (int kind = 0; kind < KINDS; kind++) {
                if (canBeOf(line, kind)) sorts |= 1 << kind;
            }
            return sorts;
        }

        private boolean canBeOf(int line, int kind) {
            for (int number = 0; number < seen && number < MOST_SEEN; number++) {
                if (seenLines[number] != line) continue;
                if (wouldKeep(line, kind, seenCells[number]) != seenKeeps[number]) return false;
            }
            return true;
        }

        private boolean wouldKeep(int line, int kind, int cells) {
            if (line < 0 || line >= MOST_LINES) return false;
            return Kinds.isKept(kind, firsts[line], seconds[line], cells);
        }

        int nextTry(int line) {
            int sorts = sorts(line);
            int best = NONE;
            int bestWorst = Integer.bitCount(sorts);
            if (bestWorst == 0) return NONE;
            for (int cells = 0; cells < 1 << length(line); cells++) {
                int worst = worstOfTry(line, sorts, cells);
                if (best == NONE || worst < bestWorst) {
                    best = cells;
                    bestWorst = worst;
                }
            }
            return best;
        }

        private int worstOfTry(int line, int sorts, int cells) {
            int keeping = 0;
            for (int kind = 0; kind < KINDS; kind++) {
                if ((sorts >> kind & 1) != 0 && wouldKeep(line, kind, cells)) keeping++;
            }
            return Math.max(keeping, Integer.bitCount(sorts) - keeping);
        }
    }

    /** Some PICTURES, by numbers, and of each CELL in how many of them it is BLACK. */
    private static final class Fits {
        final int[] pictures;
        final int[] blacks = new int[MOST_CELLS];
        int size;

        Fits(int most) {
            pictures = new int[Math.max(0, most)];
        }

        void empty() {
            size = 0;
            for (int cell = 0; cell < MOST_CELLS; cell++) blacks[cell] = 0;
        }

        void add(int picture) {
            if (size < 0 || size >= pictures.length) return;
            pictures[size] = picture;
            size++;
            for (int cell = 0; cell < MOST_CELLS; cell++) blacks[cell] += picture >> cell & 1;
        }

        void copyFrom(Fits other) {
            empty();
            for (int number = 0; number < other.size; number++) add(other.at(number));
        }

        int at(int number) {
            if (number < 0 || number >= size || number >= pictures.length) return NONE;
            return pictures[number];
        }

        int blackIn(int cell) {
            return cell >= 0 && cell < MOST_CELLS ? blacks[cell] : 0;
        }

        int sure(int cell) {
            int black = blackIn(cell);
            if (size == 0 || black != 0 && black != size) return NONE;
            return black == 0 ? 0 : 1;
        }

        boolean holds(int picture) {
            for (int number = 0; number < size; number++) {
                if (at(number) == picture) return true;
            }
            return false;
        }

        /** The CELL that leaves fewest at worst; NONE. */
        int bestLook(int cells, int marked) {
            int best = NONE;
            int bestWorst = size;
            if (size == 0) return NONE;
            for (int cell = 0; cell < cells; cell++) {
                if ((marked >> cell & 1) != 0) continue;
                int worst = Math.max(blackIn(cell), size - blackIn(cell));
                if (best == NONE || worst < bestWorst) {
                    best = cell;
                    bestWorst = worst;
                }
            }
            return best;
        }

        /** Only those stay in which the CELL is as it is in this PICTURE. */
        void keepLike(int picture, int cell) {
            int had = size;
            empty();
            // What stays moves to a place that was read already, so the same row serves.
            for (int number = 0; number < had && number < pictures.length; number++) {
                int other = pictures[number];
                if (((other ^ picture) >> cell & 1) == 0) add(other);
            }
        }

        boolean tells(int picture, int cells) {
            for (int number = 0; number < size; number++) {
                int other = at(number);
                if (other != picture && ((other ^ picture) & cells) == 0) return false;
            }
            return true;
        }
    }

    /** The search for PICTURES that FIT, from the lowest row up, so that they come by numbers. */
    private static final class Search {
        int high;
        int wide;
        int black;
        int white;
        // Of each LINE, the ways of its CELLS that KEEP its CLUE, as bits.
        final int[] ways = new int[MOST_LINES];
        // Of each column, laid from the lowest row up to each, the ways that some such way has.
        final int[] open = new int[MOST_CELLS];
        int limit;
        int found;

        void take(Table table) {
            high = table.high;
            wide = table.wide;
            black = table.black;
            white = table.white;
            for (int line = 0; line < table.lines() && line < MOST_LINES; line++) {
                ways[line] = Kinds.keeping(table.length(line), table.kinds[line],
                        table.firsts[line], table.seconds[line]);
            }
        }

        /** How many FIT, if a LINE were kept in these ways; no more than the limit are counted. */
        int countWith(int line, int lineWays, int most) {
            if (line < 0 || line >= MOST_LINES) return 0;
            int own = ways[line];
            ways[line] = lineWays;
            run(most, null);
            ways[line] = own;
            return found;
        }

        /** Finds them, till the limit; if there is a list, they come into it. */
        void run(int most, Fits list) {
            limit = most;
            found = 0;
            for (int column = 0; column < wide; column++) {
                for (int row = 0; row < high; row++) openColumn(row, column);
            }
            lay(high - 1, 0, 0, list);
        }

        private void openColumn(int row, int column) {
            int line = high + column;
            int slot = row * MOST_SIDE + column;
            if (line >= MOST_LINES || slot >= MOST_CELLS) return;
            int partly = 0;
            for (int cells = 0; cells < 1 << high; cells++) {
                if ((ways[line] >> cells & 1) != 0) partly |= 1 << (cells >> row << row);
            }
            open[slot] = partly;
        }

        /** Lays this row and all above it; the number of the row is how deep it still goes. */
        private void lay(int row, int picture, int columns, Fits list) {
            if (row >= MOST_SIDE) return;
            if (row < 0) {
                found++;
                if (list != null) list.add(picture);
                return;
            }
            int all = (1 << wide) - 1;
            int must = black >> row * wide & all;
            int mustNot = white >> row * wide & all;
            for (int cells = 0; cells <= all && found < limit; cells++) {
                if ((ways[row] >> cells & 1) == 0) continue;
                if ((cells & must) != must || (cells & mustNot) != 0) continue;
                int laid = columns | spread(cells) << row;
                if (canGoOn(row, laid)) lay(row - 1, picture | cells << row * wide, laid, list);
            }
        }

        /** Each CELL of a row at the first place of its own column, 4 bits a column. */
        private static int spread(int cells) {
            return cells & 1 | (cells & 2) << 3 | (cells & 4) << 6 | (cells & 8) << 9;
        }

        private boolean canGoOn(int row, int columns) {
            for (int column = 0; column < wide && column < MOST_SIDE; column++) {
                int laid = columns >> column * MOST_SIDE & 15;
                int slot = row * MOST_SIDE + column;
                if (slot >= MOST_CELLS || (open[slot] >> laid & 1) == 0) return false;
            }
            return true;
        }
    }
}
