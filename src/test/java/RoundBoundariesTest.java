/** The document's section 3 and promises 6, 14 to 18: where rounds begin, end and go on. */
public final class RoundBoundariesTest {
    private static final int BAD = -1, NONE = -9;
    /** 28 COPIES, the most that a ROUND has which ends: see longest(). */
    private static final String LONGEST = "o5;b3;s1 2;s1 2;s1 2;s1 2;s4 1;s4 1;";
    /** 8 COPIES, if all LINES are 4, and fewer with every other book: see lastsHighest(). */
    private static final String HIGHEST_LASTS = "o5;b4 4 4 4;s4 4;s3 4;s4 4;n4;";
    /** As many COPIES as are bought in: see buyMany(). */
    private static final String ONE_EACH = "o4;b0 1;s2 1;" + "s3 0;".repeat(5) + "n2;";

    private RoundBoundariesTest() {
    }

    public static void main(String[] args) {
        changesNothing();
        againAndAgain();
        firstConvinced();
        behindAtMost();
        longest();
        nobodyEver();
        nobodyBoughtIn();
        comesRound();
        lastsLeast();
        lastsHighest();
        lastsNone();
        buyNone();
        buyLeast();
        buyMany();
        oddsAtEnds();
        oddsOfAll();
        Due.close();
    }

    private static void changesNothing() {
        Due.by("(Nothing is changed.)");
        String[] houses = {LONGEST, HIGHEST_LASTS, ONE_EACH, "", "b0 1;", "s1 1;", "b0;s1 1;s0 0;"};
        for (String house : houses) {
            MarginBooks x = Due.told(house);
            x.releases(1, 1);
            for (int n = 0; n <= 99; n += 33) {
                x.behind(n, 0);
                x.buy(n + 1);
                x.way(n - 1);
            }
            for (int what = 0; what <= 6; what++) {
                x.line(0, what);
                x.scribe(0, what);
                x.says(0, what);
                x.now(what);
                x.ends(what);
                x.lasts(what);
                x.odds(what, what, 1);
                x.from(what);
                x.fit(what);
                x.count(what);
            }
            MarginBooks without = Due.told(house);
            without.releases(1, 1);
            Look.changesNothing("what is asked of \"" + house + "\"", x, without);
        }
    }

    /** Six who each say one thing, whatever they read. */
    private static void againAndAgain() {
        Due.by("A ROUND: SCRIBES who are not RELEASED COPY THE BOOK one behind another, by numbers"
                + " from the lowest on, again and again");
        int[] say = {1, 2, 3, 4, 0, 2};
        MarginBooks x = Due.told("b0;s0 1;s0 2;s0 3;s0 4;s0 0;s0 2;");
        Due.is("behind(0, 0)", x.behind(0, 0), 0);
        for (int n = 1; n <= 99; n++) {
            Due.is("behind(" + n + ", 0)", x.behind(n, 0), say[(n - 1) % 6]);
        }
        x.releases(0, 1);
        x.releases(2, 1);
        x.releases(5, 1);
        int[] three = {2, 4, 0};
        Due.is("behind(0, 0) of three", x.behind(0, 0), 0);
        for (int n = 1; n <= 99; n++) {
            Due.is("behind(" + n + ", 0) of three", x.behind(n, 0), three[(n - 1) % 3]);
        }
    }

    private static void firstConvinced() {
        Due.by("the first one who is CONVINCED by it ends it.");
        MarginBooks x = Due.told("b0;s0 1;s0 2;s0 1;");
        Due.is("the lowest, when it is his turn again", x.ends(0), 0);
        Due.is("behind 3", x.ends(1), 3);
        Due.is("behind(3, 0)", x.behind(3, 0), 1);
        Due.is("behind(4, 0)", x.behind(4, 0), 1);
        // The second would COPY it, but it does not come to him.
        MarginBooks y = Due.told("b0;s0 0;s0 1;");
        Due.is("at once", y.ends(0), 0);
        Due.is("behind 0", y.ends(1), 0);
        Due.is("behind(1, 0)", y.behind(1, 0), 0);
        y.releases(0, 1);
        Due.is("the second alone", y.ends(0), 1);
        Due.is("behind 1", y.ends(1), 1);
        MarginBooks last = Due.told("o2;b0;s1 1;s1 1;s1 1;s1 1;s1 1;s0 1;");
        Due.is("the highest of six", last.ends(0), 5);
        Due.is("behind 5", last.ends(1), 5);
    }

    private static void behindAtMost() {
        Due.by("BEHIND n (0 .. 99) COPIES of it (no more than there are): a LINE");
        MarginBooks x = Due.told("b0 3;s0 1;s2 0;s0 2;");
        int[] zero = {0, 1, 2};
        int[] one = {3, 1, 2};
        for (int n = 0; n <= 99; n++) {
            Due.is("behind(" + n + ", 0)", x.behind(n, 0), zero[Math.min(n, 2)]);
            Due.is("behind(" + n + ", 1)", x.behind(n, 1), one[Math.min(n, 2)]);
        }
        Due.is("behind(-1, 0)", x.behind(-1, 0), BAD);
        Due.is("behind(100, 0)", x.behind(100, 0), BAD);
        Due.is("behind(99, 2)", x.behind(99, 2), BAD);
        Due.is("behind(99, -1)", x.behind(99, -1), BAD);
        MarginBooks four = Due.told("o2;b0 1 0 1;s1 1;");
        Due.is("behind(98, 3)", four.behind(98, 3), 1);
        Due.is("behind(99, 3)", four.behind(99, 3), 0);
        Due.is("behind(99, 0)", four.behind(99, 0), 1);
    }

    /**
     * Four add 2, so 3 together, and two put 1 less what they read: the same again, unless the
     * first of them reads 3. From 3 that takes all other OPINIONS first.
     */
    private static void longest() {
        Due.by("ENDS: who ends it; behind how many COPIES");
        MarginBooks x = Due.told(LONGEST);
        Due.is("who", x.ends(0), 4);
        Due.is("behind how many", x.ends(1), 28);
        Due.is("behind(24, 0)", x.behind(24, 0), 0);
        Due.is("behind(27, 0)", x.behind(27, 0), 1);
        Due.is("behind(28, 0)", x.behind(28, 0), 3);
        Due.is("behind(29, 0)", x.behind(29, 0), 3);
        Due.is("buy(28)", x.buy(28), 0);
        Due.is("buy(29)", x.buy(29), NONE);
        Due.is("lasts(0)", x.lasts(0), 3);
        Due.is("lasts(1)", x.lasts(1), 28);
    }

    private static void nobodyEver() {
        Due.by("NONE: nobody ever does (0: nobody is bought in).");
        for (int k = 2; k <= 5; k++) {
            MarginBooks x = Due.told("o" + k + ";b0 0 0 0;s1 1;n4;");
            Due.is("who", x.ends(0), NONE);
            Due.is("behind how many", x.ends(1), NONE);
            Due.is("behind(99, 0)", x.behind(99, 0), 99 % k);
        }
        // It goes on for ever without ever being as it was at first.
        MarginBooks late = Due.told("b4;s0 0;s0 1;");
        Due.is("who, when 4 never comes again", late.ends(0), NONE);
        Due.is("behind how many, too", late.ends(1), NONE);
        // 0 comes again, but to the third and not to the first, which does not make it go on.
        MarginBooks turns = Due.told("o2;b0;s1 1;s1 1;s0 1;");
        Due.is("who ends what was there before", turns.ends(0), 2);
        Due.is("behind how many of that", turns.ends(1), 5);
    }

    private static void nobodyBoughtIn() {
        Due.by("NONE: nobody ever does (0: nobody is bought in).");
        MarginBooks x = Due.told("b3 1;s1 1;s0 3;");
        x.releases(0, 1);
        x.releases(1, 1);
        Due.is("who", x.ends(0), NONE);
        Due.is("behind how many", x.ends(1), 0);
        Due.is("behind(0, 0)", x.behind(0, 0), 3);
        Due.is("behind(99, 1)", x.behind(99, 1), 1);
        Due.is("lasts(0)", x.lasts(0), NONE);
        Due.is("lasts(1)", x.lasts(1), NONE);
        Due.is("buy(1)", x.buy(1), 1);
        Due.is("odds(0, 0, 0)", x.odds(0, 0, 0), 1);
        Due.is("odds(0, 1, 0)", x.odds(0, 1, 0), 0);
        Due.is("way(-1)", x.way(-1), 0);
        x.aims(0, 4);
        Due.is("way(-1) to another", x.way(-1), NONE);
        MarginBooks none = Due.told("b3;");
        Due.is("who, without SCRIBES", none.ends(0), NONE);
        Due.is("behind how many, without SCRIBES", none.ends(1), 0);
        Due.is("behind(99, 0), without SCRIBES", none.behind(99, 0), 3);
        Due.is("lasts(0), without SCRIBES", none.lasts(0), NONE);
        Due.is("buy(1), without SCRIBES", none.buy(1), NONE);
        Due.is("odds(0, 1, 1), without SCRIBES", none.odds(0, 1, 1), 1);
    }

    private static void comesRound() {
        Due.by("COMES round by a SCRIBE: were he alone and never CONVINCED or RELEASED: in how many"
                + " COPIES (1 ..) THE BOOK first is as NOW; NONE: never.");
        for (int k = 2; k <= 5; k++) {
            MarginBooks x = Due.told("o" + k + ";b0 1;s1 1;s1 0;s0 0;n4;");
            Due.is("all the way", x.scribe(0, 6), k);
            Due.is("nothing moves", x.scribe(1, 6), 1);
            Due.is("never", x.scribe(2, 6), NONE);
            x.releases(0, 1);
            Due.is("all the way, RELEASED", x.scribe(0, 6), k);
        }
        // 2x: 0 stays, 1 comes in 4; together in 4. 4x: 1 and 4 change places.
        MarginBooks y = Due.told("b0 1 0 0;s2 0;s4 0;");
        Due.is("LINES together", y.scribe(0, 6), 4);
        Due.is("in 2", y.scribe(1, 6), 2);
        // Of 4: 2x and 2: 0 becomes 2 and stays 2; a LINE that stays does not help one that leaves.
        MarginBooks z = Due.told("o4;b2 0;s2 2;s3 0;");
        Due.is("one LINE never", z.scribe(0, 6), NONE);
        z.errs(1, 2);
        Due.is("both stay", z.scribe(0, 6), 1);
        Due.is("2 stays by 3x", z.scribe(1, 6), 1);
        z.errs(1, 1);
        Due.is("1 comes by 3x", z.scribe(1, 6), 2);
    }

    private static void lastsLeast() {
        Due.by("of several the least (LINE 0 is the highest figure, to the base of OPINIONS)");
        // "0": all but 0 0 0 last 1; the least is 0 0 1.
        for (int k = 2; k <= 5; k++) {
            MarginBooks x = Due.told("o" + k + ";b1 1 1;s0 0;");
            Due.is("the least", x.lasts(0), 1);
            Due.is("how many", x.lasts(1), 1);
            // With two LINES to disagree with: 0 1 1.
            MarginBooks y = Due.told("o" + k + ";b1 1 1;s0 0;n2;");
            Due.is("the least with NEED 2", y.lasts(0), k + 1);
            MarginBooks z = Due.told("o" + k + ";b1 1 1;s0 0;n3;");
            Due.is("the least with NEED 3", z.lasts(0), k * k + k + 1);
            x.errs(0, 0);
            x.copies(0);
            Due.is("whatever THE BOOK is", x.lasts(0), 1);
        }
        MarginBooks all = Due.told("b4 4;s1 0;");
        Due.is("all last 0", all.lasts(0), 0);
        Due.is("0 COPIES", all.lasts(1), 0);
        Due.is("NEED above LINES", Due.told("b4 4;s1 1;n3;").lasts(1), 0);
    }

    /**
     * The first and third put 4 less x (2 stays), the second 3x + 4 (3 stays), and one LINE that
     * stays ends it. By turns 0 goes 4 1 3 1 2, 1 goes 3, 3 goes 1 2, but 4 goes 0 4 0 4 1 3 1 2.
     */
    private static void lastsHighest() {
        Due.by("LASTS: the book, of all of as many LINES as THE BOOK, with which A ROUND has most"
                + " COPIES");
        MarginBooks x = Due.told(HIGHEST_LASTS);
        Due.is("the highest of all books", x.lasts(0), 624);
        Due.is("how many", x.lasts(1), 8);
        Due.is("its ROUND", x.ends(1), 8);
        Due.is("who ends it", x.ends(0), 2);
        x.errs(3, 0);
        Due.is("one LINE less ends sooner", x.ends(1), 5);
        Due.is("the highest still", x.lasts(0), 624);
        MarginBooks one = Due.told("o5;b0;s4 4;s3 4;s4 4;");
        Due.is("of one LINE", one.lasts(0), 4);
    }

    private static void lastsNone() {
        Due.by("NONE (one goes on for ever; no LINES; nobody is bought in).");
        // 2x of 3: 0 stays, 1 and 2 change places for ever.
        MarginBooks x = Due.told("o3;b0;s2 0;");
        Due.is("this one ends", x.ends(1), 0);
        Due.is("another goes on for ever", x.lasts(0), NONE);
        Due.is("no number", x.lasts(1), NONE);
        x.releases(0, 1);
        Due.is("nobody is bought in", x.lasts(0), NONE);
        Due.is("nobody, no number", x.lasts(1), NONE);
        MarginBooks none = Due.told("s1 0;");
        Due.is("no LINES", none.lasts(0), NONE);
        Due.is("no LINES, no number", none.lasts(1), NONE);
        // Of 3 with two LINES and NEED 2, 2x goes on for ever with 2 2, too, the highest.
        Due.is("the highest goes on", Due.told("o3;b0 0;s2 0;n2;").lasts(1), NONE);
        Due.is("-1", x.lasts(-1), BAD);
        Due.is("2", none.lasts(2), BAD);
    }

    private static void buyNone() {
        Due.by("0: it has; NONE.");
        MarginBooks x = Due.told("b0;s1 0;s0 1;");
        x.releases(1, 1);
        // The first is CONVINCED by all books, whoever else is bought in.
        Due.is("buy(1)", x.buy(1), NONE);
        Due.is("buy(99)", x.buy(99), NONE);
        x.releases(0, 1);
        Due.is("the second", x.buy(1), 2);
        Due.is("the second has no more", x.buy(2), NONE);
        x.releases(1, 0);
        Due.is("it has", x.buy(1), 0);
        Due.is("it has no more", x.buy(2), NONE);
        MarginBooks on = Due.told("b0;s1 1;");
        Due.is("it goes on for ever: 1", on.buy(1), 0);
        Due.is("it goes on for ever: 99", on.buy(99), 0);
        Due.is("buy(0)", on.buy(0), BAD);
        Due.is("buy(100)", on.buy(100), BAD);
        on.releases(0, 1);
        Due.is("for ever with him", on.buy(99), 1);
    }

    private static void buyLeast() {
        Due.by("BUY for n (1 .. 99): the fewest SCRIBES who are RELEASED (bits; of as few the least)"
                + " to be bought in so that A ROUND has n COPIES or more");
        // "1" ends behind 1; with "2", "3" or "4" it goes on.
        MarginBooks x = Due.told("b0;s0 1;s0 1;s0 4;s0 3;s0 2;s1 1;");
        for (int s = 1; s < 6; s++) {
            x.releases(s, 1);
        }
        Due.is("the lowest who helps", x.buy(2), 4);
        x.releases(2, 0);
        x.releases(0, 1);
        Due.is("one is bought in already, the least beside him", x.buy(2), 1);
        x.releases(2, 1);
        // x + 1 alone goes on: one, though 0 and 2 would be a lower number.
        Due.is("few ahead of least", x.buy(99), 32);
        Due.is("one COPY", x.buy(1), 1);
        Due.is("nobody is bought by being asked for", x.now(1), 63);
    }

    /**
     * 2x + 1 makes 1 3 of 0 1; 3x makes 3 1 of it and 1 3 again; 3 stays by 2x + 1, which ends it.
     * 3x can't begin, as 0 stays. So each COPY takes one of them, and the first is always among them.
     */
    private static void buyMany() {
        Due.by("to be bought in so that A ROUND has n COPIES or more; 0: it has; NONE.");
        MarginBooks x = Due.told(ONE_EACH);
        Due.is("all six are bought in", x.buy(6), 0);
        Due.is("no seventh", x.buy(7), NONE);
        for (int s = 0; s < 6; s++) {
            x.releases(s, 1);
        }
        for (int n = 1; n <= 6; n++) {
            Due.is("buy(" + n + ")", x.buy(n), (1 << n) - 1);
        }
        Due.is("buy(7)", x.buy(7), NONE);
        x.releases(3, 0);
        Due.is("0 stays by 3x alone", x.ends(1), 0);
        Due.is("the first beside him", x.buy(2), 1);
        Due.is("the rest of all six", x.buy(6), 63 - 8);
        x.releases(0, 0);
        Due.is("it has 2", x.buy(2), 0);
        Due.is("a third", x.buy(3), 2);
    }

    private static void oddsAtEnds() {
        Due.by("ODDS by x (0 .. 10), n (0 .. 9)");
        MarginBooks x = Due.told(HIGHEST_LASTS);
        fraction(x, 0, 8, 1, 1);
        fraction(x, 0, 9, 0, 1);
        fraction(x, 1, 8, 43046721, 100000000);
        fraction(x, 1, 9, 0, 1);
        fraction(x, 10, 0, 1, 1);
        fraction(x, 10, 1, 0, 1);
        fraction(x, 0, 0, 1, 1);
        fraction(Due.told(LONGEST), 9, 9, 1, 1000000000);
        fraction(Due.told(ONE_EACH), 5, 6, 1, 64);
        fraction(Due.told(ONE_EACH), 5, 7, 0, 1);
        Due.is("odds(-1, 0, 0)", x.odds(-1, 0, 0), BAD);
        Due.is("odds(11, 0, 0)", x.odds(11, 0, 0), BAD);
        Due.is("odds(0, -1, 0)", x.odds(0, -1, 0), BAD);
        Due.is("odds(0, 10, 0)", x.odds(0, 10, 0), BAD);
        Due.is("odds(0, 9, -1)", x.odds(0, 9, -1), BAD);
        Due.is("odds(0, 9, 2)", x.odds(0, 9, 2), BAD);
    }

    private static void oddsOfAll() {
        Due.by("ODDS: upper (what = 0), lower number (1), in least terms. BAD.");
        MarginBooks x = Due.told(LONGEST);
        for (int by = 0; by <= 10; by++) {
            long upper = 1;
            long lower = 1;
            for (int n = 0; n <= 9; n++) {
                long common = commonDivisor(upper, lower);
                fraction(x, by, n, upper / common, lower / common);
                upper *= 10 - by;
                lower *= 10;
            }
        }
    }

    private static long commonDivisor(long a, long b) {
        return a == 0 ? b : commonDivisor(b % a, a);
    }

    private static void fraction(MarginBooks x, int by, int n, long upper, long lower) {
        Due.is("odds(" + by + ", " + n + ", 0)", x.odds(by, n, 0), upper);
        Due.is("odds(" + by + ", " + n + ", 1)", x.odds(by, n, 1), lower);
    }
}
