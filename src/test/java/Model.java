import java.util.ArrayList;
import java.util.Collections;
import java.util.List;
import java.util.regex.Matcher;
import java.util.regex.Pattern;

/** The document once more, written in another way (all pictures are tried, lines are texts). */
final class Model {
    static final int NONE = -1, UNKNOWN = -101, OUTSIDE = -102, STATE = -103, FULL = -104;

    private record Clue(int kind, int first, int second) { }

    private record Seen(int line, int cells, boolean keeps) { }

    private record Image(List<Clue> clues, List<Integer> marks, List<Seen> seen) { }

    private static final List<List<Pattern>> BOARDS = boardPatterns();

    private String page = "";
    private int high, wide;
    private List<Clue> clues = new ArrayList<>();
    private List<Integer> marks = new ArrayList<>();
    private List<Seen> seen = new ArrayList<>();
    private Image image;
    private int boards, hintsDone, onesDone;
    private List<Integer> fitting;

    // ---- texts

    private static String cluePattern(int length) {
        StringBuilder all = new StringBuilder("(?:");
        for (int first = 0; first <= length; first++) {
            all.append("[cpl]").append(first).append('|');
            for (int second = 0; second <= length; second++) {
                boolean may = second == 0 || first > 0 && first + 1 + second <= length;
                if (may) all.append("[rt]").append(first).append(second).append('|');
            }
        }
        all.setLength(all.length() - 1);
        return all.append(')').toString();
    }

    private static List<List<Pattern>> boardPatterns() {
        List<List<Pattern>> all = new ArrayList<>();
        for (int high = 2; high <= 4; high++) {
            List<Pattern> row = new ArrayList<>();
            for (int wide = 2; wide <= 4; wide++) {
                String rows = cluePattern(wide), columns = cluePattern(high);
                row.add(Pattern.compile("" + high + wide + ";" + rows + ("," + rows).repeat(high - 1)
                        + ";" + columns + ("," + columns).repeat(wide - 1)));
            }
            all.add(row);
        }
        return all;
    }

    private static boolean isBoard(String text) {
        for (List<Pattern> row : BOARDS) for (Pattern one : row) if (one.matcher(text).matches()) return true;
        return false;
    }

    private static boolean canBecomeBoard(String text) {
        for (List<Pattern> row : BOARDS) {
            for (Pattern one : row) {
                Matcher matcher = one.matcher(text);
                if (matcher.matches() || matcher.hitEnd()) return true;
            }
        }
        return false;
    }

    int letter(int code) {
        if (code < 1 || code > 126) return OUTSIDE;
        if (page.length() == 36) return FULL;
        page += (char) code;
        return page.length();
    }

    int blank() {
        int had = page.length();
        page = "";
        return had;
    }

    int fault() {
        for (int end = 1; end <= page.length(); end++) {
            if (!canBecomeBoard(page.substring(0, end))) return end - 1;
        }
        return page.length();
    }

    int board() {
        if (!isBoard(page)) return STATE;
        String[] parts = page.split(";");
        high = parts[0].charAt(0) - '0';
        wide = parts[0].charAt(1) - '0';
        clues = new ArrayList<>();
        for (String clue : (parts[1] + "," + parts[2]).split(",")) {
            clues.add(new Clue("crplt".indexOf(clue.charAt(0)), clue.charAt(1) - '0',
                    clue.length() > 2 ? clue.charAt(2) - '0' : 0));
        }
        marks = new ArrayList<>(Collections.nCopies(high * wide, 0));
        seen = new ArrayList<>();
        image = null;
        page = "";
        boards++;
        fitting = null;
        return high * wide;
    }

    // ---- lines

    private boolean noLine(int line) {
        return line < 0 || line >= clues.size();
    }

    private boolean noCell(int cell) {
        return cell < 0 || cell >= marks.size();
    }

    private int length(int line) {
        return line < high ? wide : high;
    }

    private static List<Integer> runs(int cells) {
        List<Integer> all = new ArrayList<>();
        String text = new StringBuilder(Integer.toBinaryString(cells)).reverse().toString();
        for (String run : text.split("0")) if (!run.isEmpty()) all.add(run.length());
        return all;
    }

    private static boolean kept(Clue clue, int cells) {
        List<Integer> runs = runs(cells);
        List<Integer> told = new ArrayList<>();
        if (clue.first > 0) told.add(clue.first);
        if (clue.second > 0) told.add(clue.second);
        List<Integer> turned = new ArrayList<>(told);
        Collections.reverse(turned);
        return switch (clue.kind) {
            case 0 -> runs.stream().mapToInt(x -> x).sum() == clue.first;
            case 1 -> runs.equals(told);
            case 2 -> runs.size() == clue.first;
            case 3 -> runs.stream().mapToInt(x -> x).max().orElse(0) == clue.first;
            default -> runs.equals(told) || runs.equals(turned);
        };
    }

    private int cellsOf(int line, int picture) {
        int cells = 0;
        for (int place = 0; place < length(line); place++) {
            int cell = line < high ? line * wide + place : place * wide + line - high;
            if ((picture >> cell & 1) == 1) cells |= 1 << place;
        }
        return cells;
    }

    /** Those that fit these clues; a clue that is null is none. */
    private List<Integer> fitting(List<Clue> these) {
        boolean[][] may = new boolean[these.size()][16];
        for (int line = 0; line < these.size(); line++) {
            for (int cells = 0; cells < 1 << length(line); cells++) {
                may[line][cells] = these.get(line) == null || kept(these.get(line), cells);
            }
        }
        List<Integer> all = new ArrayList<>();
        for (int picture = 0; picture < 1 << high * wide; picture++) {
            boolean fits = true;
            for (int line = 0; fits && line < these.size(); line++) fits = may[line][cellsOf(line, picture)];
            for (int cell = 0; fits && cell < marks.size(); cell++) {
                int black = picture >> cell & 1;
                fits = marks.get(cell) == 0 || marks.get(cell) == 2 - black;
            }
            if (fits) all.add(picture);
        }
        return all;
    }

    private List<Integer> fitting() {
        if (fitting == null) fitting = fitting(clues);
        return fitting;
    }

    private List<Clue> with(int line, Clue clue) {
        List<Clue> all = new ArrayList<>(clues);
        all.set(line, clue);
        return all;
    }

    private boolean canBe(int line, int kind) {
        Clue clue = new Clue(kind, clues.get(line).first, clues.get(line).second);
        return seen.stream().allMatch(x -> x.line != line || kept(clue, x.cells) == x.keeps);
    }

    private List<Integer> sorts(int line) {
        List<Integer> all = new ArrayList<>();
        for (int kind = 0; kind < 5; kind++) if (canBe(line, kind)) all.add(kind);
        return all;
    }

    private int next(int line) {
        List<Integer> sorts = sorts(line);
        if (sorts.isEmpty()) return NONE;
        int best = 0, fewest = 99;
        for (int cells = 0; cells < 1 << length(line); cells++) {
            int yes = 0, no = 0;
            for (int kind : sorts) {
                if (kept(new Clue(kind, clues.get(line).first, clues.get(line).second), cells)) yes++;
                else no++;
            }
            if (Math.max(yes, no) < fewest) {
                fewest = Math.max(yes, no);
                best = cells;
            }
        }
        return best;
    }

    int line(int line, int what) {
        if (noLine(line)) return UNKNOWN;
        Clue clue = clues.get(line);
        return switch (what) {
            case 0 -> clue.kind;
            case 1 -> clue.first;
            case 2 -> clue.second;
            case 3 -> length(line);
            case 4 -> fitting(with(line, null)).size() == fitting().size() ? 1 : 0;
            case 5 -> sorts(line).stream().mapToInt(x -> 1 << x).sum();
            case 6 -> next(line);
            default -> OUTSIDE;
        };
    }

    int as(int line, int kind) {
        if (noLine(line)) return UNKNOWN;
        if (kind < 0 || kind > 4) return OUTSIDE;
        List<List<Integer>> such = List.of(List.of(0), List.of(0, 1), List.of(0, 2), List.of(0, 3), List.of(0, 1, 4));
        return such.get(clues.get(line).kind).contains(kind) ? line : NONE;
    }

    int cell(int cell, int what) {
        if (noCell(cell)) return UNKNOWN;
        if (what == 0) return marks.get(cell);
        long black = fitting().stream().filter(x -> (x >> cell & 1) == 1).count();
        if (what == 1) return (int) black;
        if (what != 2) return OUTSIDE;
        if (fitting().isEmpty()) return NONE;
        return black == 0 ? 0 : black == fitting().size() ? 1 : NONE;
    }

    int keeps(int line, int cells) {
        if (noLine(line)) return UNKNOWN;
        if (cells < 0 || cells >= 1 << length(line)) return OUTSIDE;
        return kept(clues.get(line), cells) ? 1 : 0;
    }

    // ---- what is done

    int mark(int cell, int how) {
        if (noCell(cell)) return UNKNOWN;
        if (how < 0 || how > 2) return OUTSIDE;
        fitting = null;
        return marks.set(cell, how);
    }

    private int marked(List<Integer> these) {
        return (int) these.stream().filter(x -> x != 0).count();
    }

    int clear() {
        int were = marked(marks);
        marks = new ArrayList<>(Collections.nCopies(marks.size(), 0));
        fitting = null;
        return were;
    }

    int clue(int line, int kind, int first, int second) {
        if (noLine(line)) return UNKNOWN;
        if (kind < 0 || kind > 4 || first < 0 || second < 0 || first > 9 || second > 9) return OUTSIDE;
        boolean two = kind == 1 || kind == 4;
        if (!two && second != 0) return OUTSIDE;
        String text = "" + "crplt".charAt(kind) + first + (two ? "" + second : "");
        if (!text.matches(cluePattern(length(line)))) return OUTSIDE;
        fitting = null;
        return clues.set(line, new Clue(kind, first, second)).kind;
    }

    // ---- what would be

    private boolean none() {
        return clues.isEmpty();
    }

    int left() {
        return none() ? STATE : fitting().size();
    }

    int picture(int number) {
        if (number < 0) return OUTSIDE;
        if (none()) return STATE;
        return number < fitting().size() ? fitting().get(number) : NONE;
    }

    private static int look(List<Integer> pictures, List<Integer> marks) {
        if (pictures.isEmpty()) return NONE;
        int best = NONE, fewest = Integer.MAX_VALUE;
        for (int cell = 0; cell < marks.size(); cell++) {
            if (marks.get(cell) != 0) continue;
            int black = 0, white = 0;
            for (int picture : pictures) {
                if ((picture >> cell & 1) == 1) black++;
                else white++;
            }
            if (Math.max(black, white) < fewest) {
                fewest = Math.max(black, white);
                best = cell;
            }
        }
        return best;
    }

    int look() {
        return none() ? STATE : look(fitting(), marks);
    }

    int odds(int cell, int what) {
        if (noCell(cell)) return UNKNOWN;
        if (what < 0 || what > 1) return OUTSIDE;
        int above = cell(cell, 1), below = fitting().size();
        if (below == 0) return what;
        for (int by = below; by > 1; by--) {
            while (above % by == 0 && below % by == 0) {
                above /= by;
                below /= by;
            }
        }
        return what == 0 ? above : below;
    }

    private List<List<Integer>> cellSets(int from, int size) {
        List<List<Integer>> all = new ArrayList<>();
        if (size == 0) {
            all.add(List.of());
            return all;
        }
        for (int cell = from; cell < marks.size(); cell++) {
            if (marks.get(cell) != 0) continue;
            for (List<Integer> more : cellSets(cell + 1, size - 1)) {
                List<Integer> set = new ArrayList<>(List.of(cell));
                set.addAll(more);
                all.add(set);
            }
        }
        return all;
    }

    int hints(int picture, int what) {
        if (none() || !fitting().contains(picture)) return UNKNOWN;
        if (what < 0 || what > 3) return OUTSIDE;
        if (hintsDone == 12) return STATE;
        hintsDone++;
        for (int size = 0; size <= 3; size++) {
            for (List<Integer> set : cellSets(0, size)) {
                long like = fitting().stream()
                        .filter(x -> set.stream().allMatch(c -> (x >> c & 1) == (picture >> c & 1))).count();
                if (like != 1) continue;
                if (what == 0) return size;
                return what <= size ? set.get(what - 1) : NONE;
            }
        }
        return NONE;
    }

    int one() {
        if (none() || onesDone == 6) return STATE;
        onesDone++;
        if (fitting().size() == 1) return -2;
        int least = Integer.MAX_VALUE;
        for (int line = 0; line < clues.size(); line++) {
            Clue is = clues.get(line);
            int length = length(line);
            for (int first = 0; first <= length; first++) {
                boolean gone = first == 0 || first + 1 + is.second > length;
                Clue other = new Clue(is.kind, first, gone ? 0 : is.second);
                if (first != is.first && 100 * line + first < least && fitting(with(line, other)).size() == 1) {
                    least = 100 * line + first;
                }
            }
            for (int kind = 0; kind < 5; kind++) {
                Clue other = new Clue(kind, is.first, kind == 1 || kind == 4 ? is.second : 0);
                int told = 100 * line + 10 + kind;
                if (kind != is.kind && told < least && fitting(with(line, other)).size() == 1) least = told;
            }
            if (least < Integer.MAX_VALUE) return least;
        }
        return NONE;
    }

    // ---- what is seen

    int see(int line, int cells, boolean keeps) {
        if (noLine(line)) return UNKNOWN;
        if (cells < 0 || cells >= 1 << length(line)) return OUTSIDE;
        if (seen.size() == 6) return FULL;
        seen.add(new Seen(line, cells, keeps));
        return seen.size();
    }

    int forget() {
        int was = seen.size();
        seen.clear();
        return was;
    }

    int games(int times, int seed, int what) {
        if (times < 1 || times > 10 || seed < 0 || what < 0 || what > 2) return OUTSIDE;
        if (none() || fitting().isEmpty() || fitting().size() > 200) return STATE;
        long next = seed;
        int cells = 0, quick = 0;
        for (int played = 0; played < times; played++) {
            next = (1103515245L * next + 12345L) & 0x7fffffffL;
            int hidden = fitting().get((int) ((next >> 16) % fitting().size()));
            List<Integer> pictures = new ArrayList<>(fitting());
            List<Integer> known = new ArrayList<>(marks);
            int looks = 0;
            for (; pictures.size() != 1; looks++) {
                int cell = look(pictures, known);
                known.set(cell, 2 - (hidden >> cell & 1));
                pictures.removeIf(x -> (x >> cell & 1) != (hidden >> cell & 1));
            }
            cells += looks;
            if (looks <= 2) quick++;
        }
        return what == 0 ? cells : what == 1 ? quick : (int) next;
    }

    // ---- what is told of all

    int image() {
        if (none()) return STATE;
        image = new Image(List.copyOf(clues), List.copyOf(marks), List.copyOf(seen));
        return marked(marks);
    }

    int restore() {
        if (image == null) return STATE;
        clues = new ArrayList<>(image.clues);
        marks = new ArrayList<>(image.marks);
        seen = new ArrayList<>(image.seen);
        fitting = null;
        return marked(marks);
    }

    int count(int what) {
        int sure = 0;
        for (int cell = 0; what == 5 && cell < marks.size(); cell++) if (cell(cell, 2) != NONE) sure++;
        return switch (what) {
            case 0 -> high;
            case 1 -> wide;
            case 2 -> clues.size();
            case 3 -> Collections.frequency(marks, 1);
            case 4 -> Collections.frequency(marks, 2);
            case 5 -> sure;
            case 6 -> seen.size();
            case 7 -> page.length();
            case 8 -> boards;
            case 9 -> hintsDone;
            case 10 -> onesDone;
            default -> OUTSIDE;
        };
    }

    long digest() {
        List<Integer> numbers = new ArrayList<>();
        for (int line = 0; line < clues.size(); line++) {
            for (int what : new int[] {0, 1, 2, 3, 5, 6}) numbers.add(line(line, what));
        }
        for (int cell = 0; cell < marks.size(); cell++) {
            for (int what = 0; what < 3; what++) numbers.add(cell(cell, what));
        }
        if (!none()) numbers.addAll(List.of(left(), picture(0), look()));
        for (char letter : page.toCharArray()) numbers.add((int) letter);
        for (int what = 0; what <= 10; what++) numbers.add(count(what));
        long h = 1301;
        for (int number : numbers) h = 31 * h + number;
        return h;
    }
}
