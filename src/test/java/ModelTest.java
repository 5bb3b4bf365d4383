import java.util.Random;

/** Runs of calls drawn by fixed seeds: every answer of the class against the model's. */
public final class ModelTest {
    private static final int[] ODD_NUMBERS = {Integer.MIN_VALUE, Integer.MAX_VALUE, -2, -1, 10,
        11, 31, 32, 99, 100, 255, 256, 65536, -1000000, 1 << 30, -9};
    private static final String[] SCRAPS = {";", ";", " ", "  ", "o", "b", "s", "n", "x", "oo",
        "0", "1", "2", "3", "4", "5", "6", "7", "10", "99", "100", "01", "00", "A", "-", "#",
        "s1 1;", "b0 1;", "n2;", "o3;", "\u0000", "\u00ff", "\n"};

    private final Random random;
    private final MarginBooks x = new MarginBooks();
    private final Model m = new Model();
    private final String run;
    private int calls;

    private ModelTest(int seed) {
        random = new Random(seed);
        run = "run " + seed;
    }

    public static void main(String[] args) {
        int runs = args.length > 0 ? Integer.parseInt(args[0]) : 1500;
        for (int seed = 1; seed <= runs && Due.allRight(); seed++) {
            new ModelTest(seed).run();
        }
        Due.close();
    }

    private void run() {
        while (calls < 512 && Due.allRight()) {
            if (random.nextInt(60) == 0 || calls == 0 && random.nextInt(20) > 0) {
                read(random.nextInt(4) == 0 ? scraps() : houseText());
            } else {
                call(random.nextInt(27));
            }
        }
        look();
    }

    /** All that can be seen, and free of the 512 calls, as it changes nothing. */
    private void look() {
        for (int l = 0; l < 4; l++) {
            due("line", l, 0, x.line(l, 0), m.line(l, 0));
            due("line", l, 1, x.line(l, 1), m.line(l, 1));
        }
        for (int s = 0; s < 6; s++) {
            for (int what = 0; what <= 6; what++) {
                due("scribe", s, what, x.scribe(s, what), m.scribe(s, what));
            }
        }
        for (int what = 0; what <= 6; what++) {
            due("count", what, 0, x.count(what), m.count(what));
            due("now", what, 0, x.now(what), m.now(what));
        }
    }

    private void read(String text) {
        if (random.nextInt(3) > 0) {
            due("clear", 0, 0, x.clear(), m.clear());
        }
        for (int i = 0; i < text.length(); i++) {
            int c = text.charAt(i);
            due("type", c, 0, x.type(c), m.type(c));
        }
        due("house of \"" + text + "\"", 0, 0, x.house(), m.house());
        look();
    }

    private String houseText() {
        StringBuilder text = new StringBuilder();
        int opinions = 5;
        if (random.nextInt(4) > 0) {
            opinions = 2 + random.nextInt(4);
            item(text, "o", opinions);
        }
        int lines = random.nextInt(5);
        boolean needFirst = random.nextBoolean();
        int need = 1 + random.nextInt(random.nextBoolean() ? 4 : Math.max(1, lines));
        if (needFirst && random.nextInt(3) > 0) {
            item(text, "n", need);
        }
        if (lines > 0) {
            int[] book = random.ints(lines, 0, opinions).toArray();
            item(text, "b", book);
        }
        int scribes = random.nextInt(8) == 0 ? random.nextInt(2) : 1 + random.nextInt(6);
        for (int s = 0; s < scribes; s++) {
            // Few laws, so that rounds end and books come from several.
            int most = random.nextInt(3) == 0 ? 3 : 7;
            item(text, "s", random.nextInt(most), random.nextInt(most));
        }
        if (!needFirst && random.nextInt(3) > 0) {
            item(text, "n", need);
        }
        if (random.nextInt(10) == 0 && text.length() > 0) {
            text.setCharAt(random.nextInt(text.length()), "0 ;sbon79x!".charAt(random.nextInt(11)));
        }
        if (random.nextInt(20) == 0) {
            text.setLength(random.nextInt(text.length() + 1));
        }
        return text.toString();
    }

    private void item(StringBuilder text, String letters, int... numbers) {
        blanks(text, 0);
        text.append(letters);
        for (int i = 0; i < numbers.length; i++) {
            blanks(text, i == 0 ? 0 : 1);
            text.append(numbers[i]);
        }
        blanks(text, 0);
        text.append(';');
    }

    private void blanks(StringBuilder text, int least) {
        int n = random.nextInt(8) == 0 ? 1 + random.nextInt(2) : least;
        text.append(" ".repeat(n));
    }

    private String scraps() {
        StringBuilder text = new StringBuilder();
        for (int n = random.nextInt(12); n > 0; n--) {
            text.append(SCRAPS[random.nextInt(SCRAPS.length)]);
        }
        if (random.nextInt(12) == 0) {
            text.append(" ".repeat(130));
        }
        return text.toString();
    }

    /** 0 .. most less 1, at times a little beyond it, at times far. */
    private int number(int most) {
        int how = random.nextInt(40);
        if (how == 0) {
            return ODD_NUMBERS[random.nextInt(ODD_NUMBERS.length)];
        }
        return how == 1 ? most : how == 2 ? -1 : random.nextInt(most);
    }

    private void call(int which) {
        int a;
        int b;
        int c;
        switch (which) {
            case 0 -> due("type", a = number(256), 0, x.type(a), m.type(a));
            case 1 -> due("clear", 0, 0, x.clear(), m.clear());
            case 2 -> due("line", a = number(4), b = number(2), x.line(a, b), m.line(a, b));
            case 3 -> due("scribe", a = number(6), b = number(7), x.scribe(a, b), m.scribe(a, b));
            case 4 -> due("says", a = number(6), b = number(5), x.says(a, b), m.says(a, b));
            case 5, 24, 25 -> due("copies", a = number(6), 0, x.copies(a), m.copies(a));
            case 6, 26 -> due("errs", a = number(4), b = number(5), x.errs(a, b), m.errs(a, b));
            case 7 -> due("releases", a = number(6), b = random.nextInt(3) == 0 ? 1 : number(2),
                    x.releases(a, b), m.releases(a, b));
            case 8 -> due("aims", a = number(4), b = number(5), x.aims(a, b), m.aims(a, b));
            case 9 -> due("undo", 0, 0, x.undo(), m.undo());
            case 10 -> due("now", a = number(6), 0, x.now(a), m.now(a));
            case 11 -> due("behind", a = number(random.nextBoolean() ? 100 : 9), b = number(4),
                    x.behind(a, b), m.behind(a, b));
            case 12 -> due("ends", a = number(2), 0, x.ends(a), m.ends(a));
            case 13 -> due("lasts", a = number(2), 0, x.lasts(a), m.lasts(a));
            case 14 -> due("buy", a = number(random.nextBoolean() ? 100 : 6), 0, x.buy(a), m.buy(a));
            case 15 -> due("odds", (a = number(11)) * 100 + (b = number(10)), c = number(2),
                    x.odds(a, b, c), m.odds(a, b, c));
            case 16 -> wayWhole();
            case 17 -> due("from", a = number(6), 0, x.from(a), m.from(a));
            case 18 -> due("saw", a = number(5), b = number(5), x.saw(a, b), m.saw(a, b));
            case 19 -> {
                if (random.nextInt(6) == 0) {
                    due("forget", 0, 0, x.forget(), m.forget());
                } else {
                    due("fit", a = number(3), 0, x.fit(a), m.fit(a));
                }
            }
            case 20 -> {
                due("mark", a = number(6), b = number(6), x.mark(a, b), m.mark(a, b));
                due("trace", 0, 0, x.trace(), m.trace());
            }
            case 21 -> due("keep", a = number(2), 0, x.keep(a), m.keep(a));
            case 22 -> due("back", a = number(2), 0, x.back(a), m.back(a));
            default -> due("count", a = number(7), 0, x.count(a), m.count(a));
        }
    }

    private void wayWhole() {
        int a = number(7);
        due("way", a, 0, x.way(a), m.way(a));
        int n = m.way(-1);
        due("way", -1, 0, x.way(-1), n);
        for (int i = 0; i <= n; i++) {
            due("way", i, 0, x.way(i), m.way(i));
        }
    }

    private void due(String call, int a, int b, long got, long want) {
        calls++;
        Due.is(run + ", call " + calls + ": " + call + " " + a + " " + b, got, want);
    }
}
