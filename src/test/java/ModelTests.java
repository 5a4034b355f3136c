import java.util.Random;

/** Long random runs of calls, each answer against that of the model; the seeds are fixed. */
public final class ModelTests {
    private static final int RUNS = 1500, CALLS = 300;
    private static final int[] ODD = {-1, -2, 5, 7, 11, 12, 16, 37, 127, Integer.MIN_VALUE, Integer.MAX_VALUE};

    private final Random random;
    private final Check check;
    private final EdgePicture real = new EdgePicture();
    private final Model model = new Model();
    private final int run;
    private int high = 3, wide = 3;

    private ModelTests(int run, Check check) {
        this.run = run;
        this.check = check;
        random = new Random(run);
    }

    public static void main(String[] args) {
        Check check = new Check();
        for (int run = 0; run < RUNS; run++) new ModelTests(run, check).play();
        check.end("ModelTests");
    }

    private void play() {
        int calls = 0;
        while (calls < CALLS) {
            if (calls == 0 && run % 4 != 0 || random.nextInt(150) == 0) calls += writeBoard();
            if (random.nextInt(150) == 0) calls += spoilPage();
            call();
            calls++;
        }
        due("digest()", real.digest(), model.digest());
    }

    private void due(String what, long got, long want) {
        check.due("model run " + run + ": " + what, got, want);
    }

    private int pick(int most) {
        return random.nextInt(12) == 0 ? ODD[random.nextInt(ODD.length)] : random.nextInt(most + 1);
    }

    /** A clue's text that a hidden picture often keeps, so that boards with fits are common. */
    private String clueText(int length, int cells) {
        int kind = random.nextInt(5);
        boolean free = random.nextInt(8) == 0;
        int[] runs = new int[3];
        int count = 0;
        for (int place = 0; place < length; place++) {
            if ((cells >> place & 1) == 0) continue;
            if (place == 0 || (cells >> place - 1 & 1) == 0) count++;
            runs[count - 1]++;
        }
        int first = kind == 0 ? Integer.bitCount(cells) : kind == 2 ? count
                : kind == 3 ? Math.max(runs[0], runs[1]) : runs[0];
        int second = runs[1];
        if (free) {
            first = random.nextInt(length + 1);
            second = first == 0 ? 0 : random.nextInt(Math.max(0, length - first - 1) + 1);
        } else if (kind == 4 && second > 0 && random.nextBoolean()) {
            int swap = first;
            first = second;
            second = swap;
        }
        return "" + "crplt".charAt(kind) + first + (kind == 1 || kind == 4 ? "" + second : "");
    }

    private String boardText() {
        high = 2 + random.nextInt(3);
        wide = 2 + random.nextInt(3);
        int picture = random.nextInt(1 << high * wide);
        StringBuilder text = new StringBuilder().append(high).append(wide);
        for (int row = 0; row < high; row++) {
            text.append(row == 0 ? ';' : ',').append(clueText(wide, picture >> row * wide & (1 << wide) - 1));
        }
        for (int column = 0; column < wide; column++) {
            int cells = 0;
            for (int row = 0; row < high; row++) cells |= (picture >> row * wide + column & 1) << row;
            text.append(column == 0 ? ';' : ',').append(clueText(high, cells));
        }
        return text.toString();
    }

    private int write(String text) {
        due("blank()", real.blank(), model.blank());
        for (char letter : text.toCharArray()) {
            due("letter(" + (int) letter + ")", real.letter(letter), model.letter(letter));
        }
        due("fault() of " + text, real.fault(), model.fault());
        return text.length() + 2;
    }

    private int writeBoard() {
        String text = boardText();
        int calls = write(text);
        due("board() of " + text, real.board(), model.board());
        return calls + 1;
    }

    private int spoilPage() {
        int wasHigh = high, wasWide = wide;
        StringBuilder text = new StringBuilder(boardText());
        high = wasHigh;
        wide = wasWide;
        String signs = "crplt01234569;,x";
        char sign = signs.charAt(random.nextInt(signs.length()));
        int place = random.nextInt(text.length());
        switch (random.nextInt(4)) {
            case 0 -> text.setCharAt(place, sign);
            case 1 -> text.insert(place, sign);
            case 2 -> text.deleteCharAt(place);
            default -> text.append(sign);
        }
        int calls = write(text.toString());
        due("digest()", real.digest(), model.digest());
        int cells = model.board();
        due("board() of " + text, real.board(), cells);
        if (cells > 0) {
            high = model.count(0);
            wide = model.count(1);
        }
        return calls + 2;
    }

    private int anyLine() {
        return pick(high + wide - 1);
    }

    private int anyCell() {
        return pick(high * wide - 1);
    }

    private int anyPicture() {
        int count = model.left();
        return count > 0 && random.nextInt(4) != 0 ? model.picture(random.nextInt(count)) : pick(600);
    }

    private void call() {
        int a, b, c, d;
        switch (random.nextInt(27)) {
            case 0 -> due("letter(" + (a = pick(126)) + ")", real.letter(a), model.letter(a));
            case 1 -> due("blank()", real.blank(), model.blank());
            case 2 -> due("fault()", real.fault(), model.fault());
            case 3 -> due("board()", real.board(), model.board());
            case 4, 5 -> due("line(" + (a = anyLine()) + ", " + (b = pick(6)) + ")", real.line(a, b), model.line(a, b));
            case 6 -> due("as(" + (a = anyLine()) + ", " + (b = pick(4)) + ")", real.as(a, b), model.as(a, b));
            case 7 -> due("cell(" + (a = anyCell()) + ", " + (b = pick(2)) + ")", real.cell(a, b), model.cell(a, b));
            case 8 -> due("keeps(" + (a = anyLine()) + ", " + (b = pick(15)) + ")", real.keeps(a, b), model.keeps(a, b));
            case 9, 10 -> due("mark(" + (a = anyCell()) + ", " + (b = pick(2)) + ")", real.mark(a, b), model.mark(a, b));
            case 11 -> due("clear()", real.clear(), model.clear());
            case 12 -> due("clue(" + (a = anyLine()) + ", " + (b = pick(4)) + ", " + (c = pick(4)) + ", "
                    + (d = pick(2)) + ")", real.clue(a, b, c, d), model.clue(a, b, c, d));
            case 13 -> due("left()", real.left(), model.left());
            case 14 -> due("picture(" + (a = pick(9)) + ")", real.picture(a), model.picture(a));
            case 15 -> due("look()", real.look(), model.look());
            case 16 -> due("odds(" + (a = anyCell()) + ", " + (b = pick(1)) + ")", real.odds(a, b), model.odds(a, b));
            case 17 -> due("hints(" + (a = anyPicture()) + ", " + (b = pick(3)) + ")", real.hints(a, b), model.hints(a, b));
            case 18 -> due("one()", real.one(), model.one());
            case 19, 20 -> {
                boolean keeps = random.nextBoolean();
                due("see(" + (a = anyLine()) + ", " + (b = pick(15)) + ", " + keeps + ")",
                        real.see(a, b, keeps), model.see(a, b, keeps));
            }
            case 21 -> due("forget()", real.forget(), model.forget());
            case 22 -> due("games(" + (a = 1 + pick(9)) + ", " + (b = random.nextInt() >>> random.nextInt(20)) + ", "
                    + (c = pick(2)) + ")", real.games(a, b, c), model.games(a, b, c));
            case 23 -> due("image()", real.image(), model.image());
            case 24 -> due("restore()", real.restore(), model.restore());
            case 25 -> due("count(" + (a = pick(10)) + ")", real.count(a), model.count(a));
            default -> due("digest()", real.digest(), model.digest());
        }
    }
}
