import java.lang.management.ManagementFactory;
import java.util.ArrayList;
import java.util.List;
import java.util.TreeSet;

/** What a run needs of the room: no calls that make objects, and no board with more fits than kept. */
public final class RoomTests {
    private static final int MOST_FITS = 1690;
    private static final Check CHECK = new Check();

    public static void main(String[] args) {
        int most = 0;
        for (int high = 2; high <= 4; high++) {
            for (int wide = 2; wide <= 4; wide++) most = Math.max(most, mostFits(high, wide));
        }
        CHECK.due("the most fits of any board", most, MOST_FITS);
        callsMakeNothing();
        CHECK.end("RoomTests");
    }

    // ---- the most fits

    private static boolean kept(int kind, int first, int second, int cells) {
        EdgePicture x = new EdgePicture();
        for (char letter : "44;c0,c0,c0,c0;c0,c0,c0,c0".toCharArray()) x.letter(letter);
        x.board();
        x.clue(0, kind, first, second);
        return x.keeps(0, cells) == 1;
    }

    /** The ways of each clue, but for those that another one has all of: these can't have more fits. */
    private static List<Integer> widestClues(int length) {
        TreeSet<Integer> all = new TreeSet<>();
        for (int kind = 0; kind < 5; kind++) {
            for (int first = 0; first <= length; first++) {
                int most = (kind == 1 || kind == 4) && first > 0 ? Math.max(0, length - first - 1) : 0;
                for (int second = 0; second <= most; second++) {
                    int ways = 0;
                    for (int cells = 0; cells < 1 << length; cells++) {
                        if (kept(kind, first, second, cells)) ways |= 1 << cells;
                    }
                    all.add(ways);
                }
            }
        }
        List<Integer> widest = new ArrayList<>();
        for (int ways : all) {
            if (all.stream().noneMatch(other -> other != ways && (other & ways) == ways)) widest.add(ways);
        }
        return widest;
    }

    private static int mostFits(int high, int wide) {
        return laidRows(high, wide, widestClues(wide), widestClues(high), new int[high], 0, 0);
    }

    private static int laidRows(int high, int wide, List<Integer> rows, List<Integer> columns, int[] chosen, int row,
            int best) {
        if (row == high) return laidColumns(transposed(high, wide, chosen), columns, 0, wide, best);
        int most = best;
        for (int ways : rows) {
            chosen[row] = ways;
            most = Math.max(most, laidRows(high, wide, rows, columns, chosen, row + 1, most));
        }
        return most;
    }

    /** Of each picture that keeps the rows, its columns, four bits each. */
    private static int[] transposed(int high, int wide, int[] rows) {
        List<Integer> all = new ArrayList<>();
        for (int picture = 0; picture < 1 << high * wide; picture++) {
            boolean keeps = true;
            int columns = 0;
            for (int row = 0; keeps && row < high; row++) {
                int cells = picture >> row * wide & (1 << wide) - 1;
                keeps = (rows[row] >> cells & 1) != 0;
                for (int column = 0; column < wide; column++) columns |= (cells >> column & 1) << 4 * column + row;
            }
            if (keeps) all.add(columns);
        }
        return all.stream().mapToInt(x -> x).toArray();
    }

    private static int laidColumns(int[] pictures, List<Integer> columns, int column, int wide, int best) {
        if (pictures.length <= best) return best;
        if (column == wide) return pictures.length;
        int most = best;
        for (int ways : columns) {
            int[] some = new int[pictures.length];
            int size = 0;
            for (int picture : pictures) {
                if ((ways >> (picture >> 4 * column & 15) & 1) != 0) some[size++] = picture;
            }
            most = Math.max(most, laidColumns(java.util.Arrays.copyOf(some, size), columns, column + 1, wide, most));
        }
        return most;
    }

    // ---- what calls make

    private static long callAll(EdgePicture x) {
        long sum = 0;
        String text = "44;p1,p1,p1,p1;p1,p1,p1,p1";
        for (int place = 0; place < text.length(); place++) sum += x.letter(text.charAt(place));
        sum += x.fault() + x.board() + x.left() + x.one() + x.hints(65535, 0) + x.look() + x.image();
        for (int round = 0; round < 12; round++) {
            sum += x.mark(round, 1 + round % 2) + x.see(round % 8, round, true) + x.digest() + x.games(10, round, 0);
            sum += x.line(round % 8, 4) + x.odds(round, 0) + x.hints(x.picture(round), 1) + x.one();
            sum += x.clue(round % 8, round % 5, 2, 0) + x.cell(round, 2) + x.count(5) + x.restore() + x.forget();
        }
        return sum + x.clear() + x.blank();
    }

    private static void callsMakeNothing() {
        var threads = (com.sun.management.ThreadMXBean) ManagementFactory.getThreadMXBean();
        long id = Thread.currentThread().getId();
        long sum = callAll(new EdgePicture());
        EdgePicture x = new EdgePicture();
        threads.getThreadAllocatedBytes(id);
        long before = threads.getThreadAllocatedBytes(id);
        sum -= callAll(x);
        long made = threads.getThreadAllocatedBytes(id) - before;
        CHECK.due("the same calls give the same answers", sum, 0);
        CHECK.holds("calls make no objects, but made bytes: " + made, made < 4096);
    }
}
