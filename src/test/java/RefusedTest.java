import java.util.ArrayList;
import java.util.Arrays;
import java.util.List;
import java.util.function.Supplier;

/** What is refused: below and above every range, which refusal comes first, and what it changes. */
public final class RefusedTest {
    private static final int BAD = -1, STATE = -2, FULL = -3, NO = -1000000;
    private static final int LOWEST = Integer.MIN_VALUE, HIGHEST = Integer.MAX_VALUE;

    private interface Call {
        long on(MarginBooks x, int[] numbers);
    }

    /** A call, what it answers to a number that is not as told, and its numbers' least and most. */
    private record Asked(String name, long refusal, int[][] ranges, Call call) {
        String with(int[] numbers) {
            StringBuilder text = new StringBuilder(name).append('(');
            for (int n : numbers) {
                text.append(text.charAt(text.length() - 1) == '(' ? "" : ", ").append(n);
            }
            return text.append(')').toString();
        }
    }

    private RefusedTest() {
    }

    public static void main(String[] args) {
        Due.by("Refused, and nothing changes, the first of these: BAD (a number is not as told,"
                + " or there is no such thing), STATE (as told), FULL.");
        ranges(RefusedTest::emptyHouse, 5, 0, 0);
        ranges(() -> busy(2, "0 1"), 2, 2, 2);
        ranges(() -> busy(3, "2 0 1"), 3, 3, 2);
        ranges(() -> busy(5, "4 0 1 2"), 5, 4, 2);
        sixScribes();
        badAheadOfState();
        badAheadOfFull();
        states();
        fulls();
        Due.close();
    }

    private static MarginBooks emptyHouse() {
        MarginBooks x = new MarginBooks();
        x.saw(1, 1);
        x.keep(1);
        Due.type(x, "o2;");
        return x;
    }

    /** Two scribes, of whom the second is RELEASED; something of all that can be changed. */
    private static MarginBooks busy(int opinions, String book) {
        MarginBooks x = Due.told("o" + opinions + ";b" + book + ";s1 1;s0 1;");
        x.copies(0);
        x.keep(0);
        x.releases(1, 1);
        x.errs(0, x.line(0, 0) == 0 ? 1 : 0);
        x.saw(1, 1);
        x.aims(0, 1);
        x.mark(4, 0);
        Due.type(x, "b0");
        return x;
    }

    private static List<Asked> asked(int opinions, int lines, int scribes) {
        int[] opinion = {0, opinions - 1};
        int[] line = {0, lines - 1};
        int[] scribe = {0, scribes - 1};
        List<Asked> all = new ArrayList<>();
        add(all, "type", (x, n) -> x.type(n[0]), new int[] {0, 255});
        add(all, "line", (x, n) -> x.line(n[0], n[1]), line, new int[] {0, 1});
        add(all, "scribe", (x, n) -> x.scribe(n[0], n[1]), scribe, new int[] {0, 6});
        add(all, "says", (x, n) -> x.says(n[0], n[1]), scribe, opinion);
        add(all, "copies", (x, n) -> x.copies(n[0]), scribe);
        add(all, "errs", (x, n) -> x.errs(n[0], n[1]), line, opinion);
        add(all, "releases", (x, n) -> x.releases(n[0], n[1]), scribe, new int[] {0, 1});
        add(all, "aims", (x, n) -> x.aims(n[0], n[1]), line, opinion);
        add(all, "now", (x, n) -> x.now(n[0]), new int[] {0, 5});
        add(all, "behind", (x, n) -> x.behind(n[0], n[1]), new int[] {0, 99}, line);
        add(all, "ends", (x, n) -> x.ends(n[0]), new int[] {0, 1});
        add(all, "lasts", (x, n) -> x.lasts(n[0]), new int[] {0, 1});
        add(all, "buy", (x, n) -> x.buy(n[0]), new int[] {1, 99});
        add(all, "odds", (x, n) -> x.odds(n[0], n[1], n[2]), new int[] {0, 10}, new int[] {0, 9},
                new int[] {0, 1});
        add(all, "way", (x, n) -> x.way(n[0]), new int[] {-1, HIGHEST});
        add(all, "from", (x, n) -> x.from(n[0]), scribe);
        add(all, "saw", (x, n) -> x.saw(n[0], n[1]), opinion, opinion);
        add(all, "fit", (x, n) -> x.fit(n[0]), new int[] {0, 2});
        add(all, "keep", (x, n) -> x.keep(n[0]), new int[] {0, 1});
        add(all, "back", (x, n) -> x.back(n[0]), new int[] {0, 1});
        add(all, "count", (x, n) -> x.count(n[0]), new int[] {0, 6});
        all.add(new Asked("mark", NO, new int[][] {{0, 5}, scribe},
                (x, n) -> x.mark(n[0], n[1])));
        return all;
    }

    private static void add(List<Asked> all, String name, Call call, int[]... numbers) {
        all.add(new Asked(name, BAD, numbers, call));
    }

    private static void ranges(Supplier<MarginBooks> made, int opinions, int lines, int scribes) {
        for (Asked a : asked(opinions, lines, scribes)) {
            int[] least = new int[a.ranges().length];
            int[] most = new int[a.ranges().length];
            boolean some = true;
            for (int i = 0; i < a.ranges().length; i++) {
                least[i] = a.ranges()[i][0];
                most[i] = a.ranges()[i][1];
                some &= least[i] <= most[i];
            }
            taken(a, made, least, some);
            taken(a, made, most, some);
            for (int i = 0; i < least.length; i++) {
                beyond(a, made, i, least);
                beyond(a, made, i, most);
            }
            all(a, made, least.length, LOWEST);
            all(a, made, least.length, HIGHEST);
        }
    }

    /** The ends of the ranges are within them, where there is such a thing at all. */
    private static void taken(Asked a, Supplier<MarginBooks> made, int[] numbers, boolean some) {
        if (some) {
            Due.holds(a.with(numbers) + " is not refused",
                    a.call().on(made.get(), numbers) != a.refusal());
        } else {
            refused(a, made, numbers);
        }
    }

    /** One number below and above what it may be, all others as they are. */
    private static void beyond(Asked a, Supplier<MarginBooks> made, int i, int[] numbers) {
        int[] range = a.ranges()[i];
        int[] wrong = {range[0] - 1, LOWEST, range[1] + 1, HIGHEST};
        for (int n : wrong) {
            if (n < range[0] || n > range[1]) {
                int[] changed = numbers.clone();
                changed[i] = n;
                refused(a, made, changed);
            }
        }
    }

    private static void all(Asked a, Supplier<MarginBooks> made, int length, int n) {
        if (n < a.ranges()[0][0] || n > a.ranges()[0][1]) {
            int[] numbers = new int[length];
            Arrays.fill(numbers, n);
            refused(a, made, numbers);
        }
    }

    private static void refused(Asked a, Supplier<MarginBooks> made, int[] numbers) {
        Look.unchanged(a.with(numbers), made, x -> a.call().on(x, numbers), a.refusal());
    }

    /** The highest SCRIBE that there can be, and one more. */
    private static void sixScribes() {
        Supplier<MarginBooks> made = () -> Due.told("b0;" + "s1 1;".repeat(6));
        for (Asked a : asked(5, 1, 6)) {
            if (a.ranges()[0][1] == 5 && !a.name().equals("now") && !a.name().equals("mark")) {
                int[] numbers = new int[a.ranges().length];
                numbers[0] = 5;
                Due.holds(a.with(numbers) + " is not refused",
                        a.call().on(made.get(), numbers) != a.refusal());
                numbers[0] = 6;
                refused(a, made, numbers);
            }
        }
        Due.is("mark(0, 5)", made.get().mark(0, 5), 1);
        Due.is("mark(0, 6)", made.get().mark(0, 6), NO);
    }

    private static void badAheadOfState() {
        // The first is RELEASED, the second CONVINCED; LINE 0 says 1; no IMAGE is kept.
        Supplier<MarginBooks> made = () -> {
            MarginBooks x = Due.told("o3;b1;s1 1;s0 1;");
            x.releases(0, 1);
            return x;
        };
        Look.unchanged("copies(2) by none", made, x -> x.copies(2), BAD);
        Look.unchanged("errs(1, 1) to what LINE 0 says", made, x -> x.errs(1, 1), BAD);
        Look.unchanged("errs(0, 3) to none", made, x -> x.errs(0, 3), BAD);
        Look.unchanged("releases(2, 1) of none", made, x -> x.releases(2, 1), BAD);
        Look.unchanged("releases(0, 2) of one RELEASED", made, x -> x.releases(0, 2), BAD);
        Look.unchanged("back(2) of none kept", made, x -> x.back(2), BAD);
        Look.unchanged("back(-1) of none kept", made, x -> x.back(-1), BAD);
    }

    private static void badAheadOfFull() {
        Supplier<MarginBooks> made = RefusedTest::full;
        Look.unchanged("type(-1) at 120", made, x -> x.type(-1), BAD);
        Look.unchanged("type(256) at 120", made, x -> x.type(256), BAD);
        Look.unchanged("saw(3, 0) at 6", made, x -> x.saw(3, 0), BAD);
        Look.unchanged("saw(0, 3) at 6", made, x -> x.saw(0, 3), BAD);
        Look.unchanged("saw(-1, 0) at 6", made, x -> x.saw(-1, 0), BAD);
        Look.unchanged("saw(0, -1) at 6", made, x -> x.saw(0, -1), BAD);
    }

    /** 120 bytes, 6 MARGINS, 10 to be UNDONE. */
    private static MarginBooks full() {
        MarginBooks x = Due.told("o3;b0;s1 1;");
        for (int i = 0; i < 11; i++) {
            x.copies(0);
        }
        for (int i = 0; i < 6; i++) {
            x.saw(i % 3, (i + 1) % 3);
        }
        Due.type(x, "b1;" + " ".repeat(117));
        return x;
    }

    private static void states() {
        Supplier<MarginBooks> made = () -> {
            MarginBooks x = Due.told("o3;b1;s1 1;s0 1;s0 1;");
            x.releases(0, 1);
            x.releases(2, 1);
            x.keep(1);
            return x;
        };
        Due.by("COPIED: how many COPIES. BAD; STATE: he is RELEASED, is CONVINCED, there are 999.");
        Look.unchanged("copies(0), RELEASED", made, x -> x.copies(0), STATE);
        Look.unchanged("copies(1), CONVINCED", made, x -> x.copies(1), STATE);
        Look.unchanged("copies(2), both", made, x -> x.copies(2), STATE);
        Due.by("ERROR: what it said. BAD; STATE: it says so.");
        Look.unchanged("errs(0, 1)", made, x -> x.errs(0, 1), STATE);
        Due.by("RELEASED (1), bought in (0): how many are RELEASED. BAD; STATE: it is so.");
        Look.unchanged("releases(0, 1)", made, x -> x.releases(0, 1), STATE);
        Look.unchanged("releases(1, 0)", made, x -> x.releases(1, 0), STATE);
        Due.by("UNDONE: how many more may be. STATE: none.");
        Look.unchanged("undo()", () -> Due.told("b1;s1 1;"), MarginBooks::undo, STATE);
        Look.unchanged("undo() of a new object", MarginBooks::new, MarginBooks::undo, STATE);
        Due.by("All of that becomes as an IMAGE has it: COPIES. BAD; STATE: none was kept.");
        Look.unchanged("back(0)", made, x -> x.back(0), STATE);
        Look.unchanged("back(1) of a new object", MarginBooks::new, x -> x.back(1), STATE);
    }

    private static void fulls() {
        Due.by("A byte (0 .. 255) comes to THE TEXT: how many it has. BAD; FULL.");
        Look.unchanged("type(0)", RefusedTest::full, x -> x.type(0), FULL);
        Look.unchanged("type(255)", RefusedTest::full, x -> x.type(255), FULL);
        Due.by("MARGINS: how many there are. BAD; FULL.");
        Look.unchanged("saw(0, 0)", RefusedTest::full, x -> x.saw(0, 0), FULL);
        Look.unchanged("saw(2, 2)", RefusedTest::full, x -> x.saw(2, 2), FULL);
    }
}
