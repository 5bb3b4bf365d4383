/** Ways, where a book comes from, margins, kinds: promises 13, 19 to 24, 28, at their ends. */
public final class WayBoundariesTest {
    private static final int BAD = -1, FULL = -3, NONE = -9, NO = -1000000;
    private static final int HIGHEST = Integer.MAX_VALUE;

    private WayBoundariesTest() {
    }

    public static void main(String[] args) {
        wayOfNone();
        wayFewest();
        wayFirst();
        wayLong();
        wayCannot();
        fromBooks();
        copiedLast();
        same();
        marginsAtMost();
        fitAll();
        fitFirst();
        fitNone();
        nextLeast();
        by();
        kinds();
        traceOfKinds();
        traceOfRefused();
        counts();
        Due.close();
    }

    private static void aim(MarginBooks x, int... target) {
        for (int l = 0; l < target.length; l++) {
            x.aims(l, target[l]);
        }
    }

    /** How many COPIES, the SCRIBE of each, and no more of them. */
    private static void way(String what, MarginBooks x, int... scribes) {
        Due.is(what + ": how many", x.way(-1), scribes.length);
        for (int i = 0; i < scribes.length; i++) {
            Due.is(what + ": way(" + i + ")", x.way(i), scribes[i]);
        }
        Due.is(what + ": no more", x.way(scribes.length), NONE);
        Due.is(what + ": no more by far", x.way(HIGHEST), NONE);
    }

    private static void noWay(String what, MarginBooks x) {
        Due.is(what + ": it can not", x.way(-1), NONE);
        Due.is(what + ": no first", x.way(0), NONE);
        Due.is(what + ": none by far", x.way(HIGHEST), NONE);
        Due.is(what + ": BAD all the same", x.way(-2), BAD);
    }

    private static void wayOfNone() {
        Due.by("WAY: how many (i = -1), the SCRIBE of the i-th COPY; NONE. BAD (below -1).");
        MarginBooks x = Due.told("b1 2;s1 1;");
        way("it is so", x);
        Due.is("way(-2)", x.way(-2), BAD);
        Due.is("way(lowest)", x.way(Integer.MIN_VALUE), BAD);
        x.copies(0);
        way("once round", x, 0, 0, 0, 0);
        x.undo();
        way("it is so again", x);
        way("no LINES", Due.told("s1 1;"));
        way("nobody", Due.told("b1;"));
        way("neither", new MarginBooks());
    }

    private static void wayFewest() {
        Due.by("WAY: the fewest COPIES (by SCRIBES who are not RELEASED and COPY it then) by which"
                + " THE BOOK becomes TARGET");
        // By x + 1 in 4, by x + 3 in 3 (3, 1, 4); both in any order: 1, 4.
        MarginBooks x = Due.told("b0 0;s1 1;s1 3;");
        aim(x, 4, 4);
        way("both", x, 0, 1);
        x.releases(1, 1);
        way("the first alone", x, 0, 0, 0, 0);
        x.releases(1, 0);
        x.releases(0, 1);
        way("the second alone", x, 1, 1, 1);
        x.releases(1, 1);
        noWay("nobody", x);
        // 2x + 1 makes 4 1 of 4 0 at once, but 4 stays: with NEED 2 he can't COPY it while a 4 is in
        // it. By x + 1 it is 0 1, 1 2, by 2x + 1 then 3 0, by x + 1 4 1.
        MarginBooks y = Due.told("b4 0;s2 1;s1 1;");
        aim(y, 4, 1);
        way("he DISAGREES with one", y, 0);
        MarginBooks z = Due.told("b4 0;s2 1;s1 1;n2;");
        aim(z, 4, 1);
        way("he is CONVINCED then", z, 1, 1, 0, 1);
    }

    private static void wayFirst() {
        Due.by("of several the first (by SCRIBES, one behind another): how many; the SCRIBE of the"
                + " i-th; NONE (it can not; not so many).");
        // All the same law: always the lowest who is there.
        MarginBooks x = Due.told("b0;" + "s1 1;".repeat(6));
        aim(x, 3);
        way("six alike", x, 0, 0, 0);
        x.releases(0, 1);
        way("five alike", x, 1, 1, 1);
        // x + 2, x + 1 to 3: 0 1 and 1 0 are as short; 0 1 is the first.
        MarginBooks y = Due.told("b0;s1 2;s1 1;");
        aim(y, 3);
        way("0 1 ahead of 1 0", y, 0, 1);
        // To 4 by x + 1, x + 4, x + 3: 1 alone is shorter than 0 2.
        MarginBooks z = Due.told("b0;s1 1;s1 4;s1 3;");
        aim(z, 4);
        way("short ahead of first", z, 1);
        // To 2: 0 0, 2 1 (3 + 4) and 1 2 are as short.
        aim(z, 2);
        way("0 0 ahead of 1 2", z, 0, 0);
        z.releases(0, 1);
        way("1 2 ahead of 2 1", z, 1, 2);
        // A lower second one does not help a higher first one: to 0 from 1 by 0 3 or 1 2.
        MarginBooks first = Due.told("b1;s0 3;s0 2;s1 3;s1 2;n1;");
        aim(first, 0);
        way("by the first COPY first", first, 0, 3);
    }

    /**
     * 2x COPIES only what has no 0, if all 4 LINES are needed; x less 1 does so with all. Of 3 1 0 2
     * it is 4 that is not there. To 3 2 4 0 (3x + 4) it takes 4 COPIES until 0 is not there, then
     * three times 2x (8 is 3), then 4 COPIES until 1 is not there.
     */
    private static void wayLong() {
        Due.by("of several the first (by SCRIBES, one behind another)");
        MarginBooks x = Due.told("o5;b3 1 0 2;s2 5;s2 5;s1 0;s1 4;n4;");
        aim(x, 3, 2, 4, 0);
        way("11 COPIES", x, 3, 3, 3, 3, 0, 0, 0, 3, 3, 3, 3);
        x.releases(0, 1);
        way("11 COPIES without the first", x, 3, 3, 3, 3, 1, 1, 1, 3, 3, 3, 3);
        x.releases(1, 1);
        noWay("without 2x", x);
    }

    private static void wayCannot() {
        Due.by("NONE (it can not; not so many).");
        MarginBooks x = Due.told("b0 0;s1 1;s2 3;");
        aim(x, 0, 1);
        noWay("LINES that are alike stay alike", x);
        aim(x, 1, 1);
        way("and become 1", x, 0);
        // From 3 by "3": CONVINCED; nothing leads to 4.
        MarginBooks y = Due.told("b3;s0 3;");
        aim(y, 4);
        noWay("CONVINCED", y);
        aim(y, 3);
        way("it is so", y);
    }

    private static void fromBooks() {
        Due.by("FROM: books of as many LINES that a SCRIBE COPIES (RELEASED or not) so that they"
                + " become THE BOOK: how many by SCRIBE s");
        int[] all = {1, 5, 25, 125, 625};
        String book = "b";
        for (int lines = 1; lines <= 4; lines++) {
            book += " 1";
            MarginBooks x = Due.told(book + ";s0 1;s1 1;s1 0;s0 2;");
            Due.is("all but itself", x.from(0), all[lines] - 1);
            Due.is("one", x.from(1), 1);
            Due.is("itself, which he does not COPY", x.from(2), 0);
            Due.is("none", x.from(3), 0);
            x.releases(0, 1);
            Due.is("RELEASED", x.from(0), all[lines] - 1);
        }
        // With NEED: "1" COPIES 1 1 1 1 of books with so many LINES that are not 1.
        int[] most = {624, 624 - 16, 624 - 16 - 96, 256};
        for (int need = 1; need <= 4; need++) {
            Due.is("NEED " + need, Due.told("b1 1 1 1;s0 1;n" + need + ";").from(0),
                    most[need - 1]);
        }
        Due.is("no LINES", Due.told("s0 1;").from(0), 0);
        Due.is("from(-1)", Due.told("b1;s0 1;").from(-1), BAD);
        Due.is("from(1)", Due.told("b1;s0 1;").from(1), BAD);
    }

    private static void copiedLast() {
        Due.by("by any (bits of SCRIBES who can have COPIED it last).");
        MarginBooks x = Due.told("b1;s0 1;s0 2;s1 1;s1 0;s0 1;s1 2;");
        Due.is("now(3)", x.now(3), 1 + 4 + 16 + 32);
        for (int s = 0; s < 6; s++) {
            x.releases(s, 1);
        }
        Due.is("now(3), all RELEASED", x.now(3), 1 + 4 + 16 + 32);
        Due.is("nobody can", Due.told("b1;s0 2;s1 0;").now(3), 0);
        Due.is("there is nobody", Due.told("b1;").now(3), 0);
        Due.is("no LINES", Due.told("s1 1;").now(3), 0);
        Due.is("NEED above LINES", Due.told("b1;s1 1;n2;").now(3), 0);
    }

    private static void same() {
        Due.by("SAME: LINES (bits) that are alike in all books that any SCRIBE can have COPIED it"
                + " from; 0, if there are none.");
        String book = "b";
        for (int lines = 1; lines <= 4; lines++) {
            book += " " + lines;
            Due.is("of one book", Due.told(book + ";s1 1;").now(4), (1 << lines) - 1);
            Due.is("of one book by two", Due.told(book + ";s1 1;s6 6;").now(4), (1 << lines) - 1);
            Due.is("of none", Due.told(book + ";s1 0;").now(4), 0);
            Due.is("by nobody", Due.told(book + ";").now(4), 0);
        }
        Due.is("of all but one", Due.told("o2;b1 1;s0 1;").now(4), 0);
        // x + 1 and 2x + 1 of 5: 1 comes of 0 by both; 2 of 1 and of 3; 4 of 3 and of 4.
        Due.is("LINE 0 of two", Due.told("b1 2;s1 1;s2 1;").now(4), 1);
        Due.is("LINE 3 of two", Due.told("b2 2 4 1;s1 1;s2 1;").now(4), 8);
        Due.is("none of two", Due.told("b2 4;s1 1;s2 1;").now(4), 0);
        MarginBooks x = Due.told("b1 2;s1 1;s2 1;");
        x.releases(0, 1);
        x.releases(1, 1);
        Due.is("RELEASED", x.now(4), 1);
        Due.is("no LINES", Due.told("s1 1;").now(4), 0);
    }

    private static void marginsAtMost() {
        Due.by("MARGINS (6 at most): of an OPINION x somebody said y.");
        MarginBooks x = new MarginBooks();
        for (int n = 1; n <= 6; n++) {
            Due.is("saw()", x.saw(4, 0), n);
            Due.is("MARGINS", x.count(4), n);
        }
        Due.is("a seventh", x.saw(4, 0), FULL);
        Due.is("a seventh unlike one", x.saw(0, 0), FULL);
        Due.is("which nothing fits", x.fit(0), 5);
        Due.by("`int forget()`: There are no MARGINS: how many there were.");
        Due.is("forget() of 6", x.forget(), 6);
        Due.is("forget() of none", x.forget(), 0);
        Due.is("MARGINS", x.count(4), 0);
        Due.is("saw() then", x.saw(1, 1), 1);
        Due.is("forget() of 1", x.forget(), 1);
        Look.unchanged("forget() of none", () -> Due.told("b0;s1 1;"), MarginBooks::forget, 0);
        MarginBooks y = Due.told("b0;s1 1;");
        y.saw(1, 4);
        y.forget();
        Look.changesNothing("saw() and forget()", y, Due.told("b0;s1 1;"));
        // The sixth counts as all others do.
        MarginBooks z = new MarginBooks();
        for (int n = 1; n <= 5; n++) {
            z.saw(0, 2);
        }
        Due.is("5 alike", z.fit(0), 5);
        z.saw(1, 2);
        Due.is("the sixth", z.fit(0), 1);
    }

    private static void fitAll() {
        Due.by("FIT: twos of TURN, BENT (each below how many OPINIONS there are) by which all MARGINS"
                + " are so: how many");
        for (int k = 2; k <= 5; k++) {
            MarginBooks x = Due.told("o" + k + ";");
            Due.is("no MARGINS", x.fit(0), k * k);
            Due.is("the first", x.fit(1), 0);
            Due.is("NEXT", x.fit(2), 0);
            x.saw(k - 1, k - 1);
            Due.is("of one MARGIN", x.fit(0), k);
        }
        Due.is("fit(-1)", new MarginBooks().fit(-1), BAD);
        Due.is("fit(3)", new MarginBooks().fit(3), BAD);
    }

    private static void fitFirst() {
        Due.by("the first (10 times TURN and BENT)");
        for (int k = 2; k <= 5; k++) {
            for (int turn = 0; turn < k; turn++) {
                for (int bent = 0; bent < k; bent++) {
                    MarginBooks x = Due.told("o" + k + ";");
                    x.saw(0, bent);
                    Due.is("of BENT alone", x.fit(1), bent);
                    x.saw(1, (turn + bent) % k);
                    Due.is("how many", x.fit(0), 1);
                    Due.is("the only one", x.fit(1), 10 * turn + bent);
                    Due.is("NEXT of one", x.fit(2), 0);
                }
            }
        }
        // 1 is said 3 by 0 3, 1 2, 2 1, 3 0, 4 4.
        MarginBooks x = new MarginBooks();
        x.saw(1, 3);
        Due.is("the first of 5", x.fit(1), 3);
        x.saw(2, 4);
        Due.is("1 2", x.fit(1), 12);
        // Of 4: 2 is said 2 by 0 2, 1 0, 2 2, 3 0.
        MarginBooks y = Due.told("o4;");
        y.saw(2, 2);
        Due.is("four of 4", y.fit(0), 4);
        Due.is("0 2 ahead of 1 0", y.fit(1), 2);
        y.saw(0, 0);
        Due.is("1 0 and 3 0", y.fit(0), 2);
        Due.is("1 0 ahead of 3 0", y.fit(1), 10);
    }

    private static void fitNone() {
        Due.by("FIT: how many (what = 0), the first (1), NEXT (2); NONE. BAD.");
        for (int k = 2; k <= 5; k++) {
            MarginBooks x = Due.told("o" + k + ";s1 1;");
            x.saw(0, 0);
            x.saw(0, 1);
            Due.is("how many", x.fit(0), 0);
            Due.is("no first", x.fit(1), NONE);
            Due.is("no NEXT", x.fit(2), NONE);
            Due.is("nobody", x.now(5), 0);
            Due.is("fit(3)", x.fit(3), BAD);
        }
    }

    private static void nextLeast() {
        Due.by("NEXT: the OPINION of which those that fit say most unlike things, of several the"
                + " least; NONE.");
        for (int k = 2; k <= 5; k++) {
            MarginBooks zero = Due.told("o" + k + ";");
            zero.saw(0, 1);
            Due.is("0 is known: 1 tells as much as more", zero.fit(2), 1);
            MarginBooks one = Due.told("o" + k + ";");
            one.saw(1, 0);
            Due.is("1 is known: 0", one.fit(2), 0);
        }
        // Of 4, 0 and 2 are known: TURN is one of two, which 1 tells, as does 3.
        MarginBooks x = Due.told("o4;");
        x.saw(2, 3);
        x.saw(0, 1);
        Due.is("two fit", x.fit(0), 2);
        Due.is("1 tells", x.fit(2), 1);
        // Of 4, 1 and 3 are known: 0 tells, as does 2.
        MarginBooks y = Due.told("o4;");
        y.saw(1, 3);
        y.saw(3, 1);
        Due.is("two fit", y.fit(0), 2);
        Due.is("0 tells", y.fit(2), 0);
    }

    private static void by() {
        Due.by("BY: SCRIBES (bits) by whom all MARGINS are so.");
        // TURN and BENT need not be below OPINIONS here: 3 3 is 1 1 of 2, 6 6 is 0 0.
        MarginBooks x = Due.told("o2;s1 1;s3 3;s6 6;s0 0;s0 1;s5 5;");
        Due.is("no MARGINS: all", x.now(5), 63);
        x.saw(0, 1);
        Due.is("0 is said 1", x.now(5), 1 + 2 + 16 + 32);
        x.saw(1, 0);
        Due.is("1 is said 0", x.now(5), 1 + 2 + 32);
        Due.is("one two fits", x.fit(1), 11);
        x.releases(0, 1);
        Due.is("RELEASED or not", x.now(5), 1 + 2 + 32);
        x.saw(1, 1);
        Due.is("nobody", x.now(5), 0);
        Due.is("there is nobody", new MarginBooks().now(5), 0);
    }

    /** The last COPIED twice, then "0" once; 6x + 5 says of all what they say. */
    private static MarginBooks marked() {
        MarginBooks x = Due.told("o5;b0 1 2 3;s6 5;s6 5;s0 0;s2 1;");
        x.copies(3);
        x.copies(3);
        x.copies(2);
        return x;
    }

    private static void kinds() {
        Due.by("KINDS of SCRIBES are over one another: 0 SCRIBE; 1 SCOFFER, 2 MONK, 5 ABBOT (each"
                + " under SCRIBE); 3 HERETIC (under SCOFFER); 4 NOVICE (under MONK).");
        MarginBooks x = marked();
        // All LINES are 0, with which the first and "0" agree; of 3 COPIES 2 are by the last.
        int[] first = {0, 6, 0, 12, 5, 3};
        int[] zero = {0, 0, -1, 0, -1, 3};
        int[] last = {4, 6, 2, 12, 3, 7};
        for (int kind = 0; kind <= 5; kind++) {
            Due.is("mark(" + kind + ", 0)", x.mark(kind, 0), first[kind]);
            Due.is("mark(" + kind + ", 2)", x.mark(kind, 2), zero[kind]);
            Due.is("mark(" + kind + ", 3)", x.mark(kind, 3), last[kind]);
        }
        x.releases(3, 1);
        for (int kind = 0; kind <= 5; kind++) {
            Due.is("mark(" + kind + ", 3), RELEASED", x.mark(kind, 3), last[kind]);
        }
        Due.is("DISAGREES below NEED", Due.told("b0 1;s1 1;n4;").mark(0, 0), 2);
        Due.is("no LINES", Due.told("s1 1;").mark(3, 0), 2);
    }

    private static void traceOfKinds() {
        Due.by("numbers in brackets come to THE TRACE as often as mark() asks that body");
        long[] adds = {1, 11, 101, 1011, 10101, 100001};
        for (int kind = 0; kind <= 5; kind++) {
            MarginBooks x = marked();
            Due.is("THE TRACE at first", x.trace(), 0);
            for (int n = 1; n <= 3; n++) {
                x.mark(kind, n);
                Due.is("THE TRACE of kind " + kind, x.trace(), n * adds[kind]);
            }
        }
        MarginBooks x = marked();
        long all = 0;
        for (int n = 0; n < 300; n++) {
            x.mark(n % 6, 0);
            all += adds[n % 6];
        }
        Due.is("THE TRACE of 300", x.trace(), all);
    }

    private static void traceOfRefused() {
        Due.by("MARK. NO: BAD.");
        MarginBooks x = marked();
        x.mark(5, 0);
        int[][] wrong = {{-1, 0}, {6, 0}, {0, -1}, {0, 4}, {-1, -1}, {6, 4}, {HIGHEST, 0},
            {0, HIGHEST}, {Integer.MIN_VALUE, 0}, {0, Integer.MIN_VALUE}};
        for (int[] w : wrong) {
            Due.is("mark(" + w[0] + ", " + w[1] + ")", x.mark(w[0], w[1]), NO);
            Due.is("THE TRACE", x.trace(), 100001);
        }
        Due.is("mark(0, 0) of nobody", new MarginBooks().mark(0, 0), NO);
        Due.by("`long trace()`: THE TRACE.");
        x.keep(0);
        x.mark(0, 0);
        x.undo();
        x.back(0);
        x.house();
        Due.is("nothing but mark() changes it", x.trace(), 100002);
        // What is asked about rounds, lines and fits asks no body.
        x.now(2);
        x.ends(0);
        x.lasts(0);
        x.scribe(0, 4);
        Due.is("nor what else is asked", x.trace(), 100002);
    }

    private static void counts() {
        Due.by("0 OPINIONS, 1 LINES, 2 SCRIBES, 3 NEED, 4 MARGINS, 5 how many may be UNDONE,"
                + " 6 bytes of THE TEXT. BAD.");
        MarginBooks x = Due.told("o5;b0 0 0 0;" + "s1 1;".repeat(6) + "n4;");
        for (int i = 0; i < 120; i++) {
            x.type(' ');
        }
        for (int i = 0; i < 12; i++) {
            x.copies(0);
            x.saw(0, 0);
        }
        int[] most = {5, 4, 6, 4, 6, 10, 120};
        for (int what = 0; what <= 6; what++) {
            Due.is("count(" + what + ") at most", x.count(what), most[what]);
        }
        MarginBooks y = Due.told("o2;");
        int[] least = {2, 0, 0, 1, 0, 0, 0};
        for (int what = 0; what <= 6; what++) {
            Due.is("count(" + what + ") at least", y.count(what), least[what]);
        }
        Due.is("count(-1)", y.count(-1), BAD);
        Due.is("count(7)", y.count(7), BAD);
    }
}
