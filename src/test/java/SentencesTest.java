/**
 * The document from its first line on: what it is as a whole, and each sentence that names no
 * boundary, which the other tests go along.
 */
public final class SentencesTest {
    private static final int BAD = -1, STATE = -2, FULL = -3, NONE = -9, NO = -1000000;
    private static final int CALLS = 512;
    /** 2x + 1 and x + 3: 1 3 0, 3 2 1, 1 0 4, 3 1 4, 1 4 2, 3 4 0, 1 2 3, 3 0 2, and so on. */
    private static final String HOUSE = "o5;b1 3 0;s2 1;s1 3;n2;";
    /** Who ends a ROUND in them, and that one goes on for ever, is unlike. */
    private static final String[] HOUSES = {HOUSE, "o2;b0 1;s0 1;s0 0;", "o3;b2 1;s2 1;s0 2;n2;",
        "o4;b1 2;s2 1;s3 3;", "o3;b0 2;s2 0;s2 1;n2;", "b3;s4 4;s3 4;s4 4;", "b0;s1 0;", "s1 1;"};

    private SentencesTest() {
    }

    public static void main(String[] args) {
        onlyIfFalse();
        nextOnesBook();
        allUndone();
        whereItGoes();
        whereItComesFrom();
        lawsAndLongest();
        buyAndOdds();
        kindsAndImages();
        calls();
        byteByByte();
        need();
        tokens();
        again();
        disagrees();
        lasts();
        odds();
        marks();
        belowZero();
        line();
        scribe();
        says();
        now();
        behind();
        ends();
        lastsOrNone();
        buy();
        from();
        keep();
        Due.close();
    }

    private static void book(String when, MarginBooks x, int... want) {
        Due.is("LINES " + when, x.count(1), want.length);
        for (int l = 0; l < want.length; l++) {
            Due.is("LINE " + l + " " + when, x.line(l, 0), want[l]);
        }
    }

    private static void onlyIfFalse() {
        Due.by("Copied by whoever disagrees: scribes of a house hand on a book only if they think it"
                + " false");
        for (int turn = 0; turn <= 6; turn++) {
            for (int bent = 0; bent <= 6; bent++) {
                for (int x = 0; x < 5; x++) {
                    String house = "b" + x + ";s" + turn + " " + bent + ";";
                    int says = (turn * x + bent) % 5;
                    MarginBooks it = Due.told(house);
                    Due.is("copies(0) of " + house, it.copies(0), says == x ? STATE : 1);
                    Due.is("LINE 0 of " + house, it.line(0, 0), says);
                }
            }
        }
    }

    private static void nextOnesBook() {
        Due.by("each by a law of his own puts what he'd have said, which is the next one's book, told"
                + " by a text");
        MarginBooks x = Due.told(HOUSE);
        Due.is("the first", x.copies(0), 1);
        book("by the first", x, 3, 2, 1);
        Due.is("the next", x.copies(1), 2);
        book("by the next", x, 1, 0, 4);
        Due.is("the first of that", x.copies(0), 3);
        book("by the first of that", x, 3, 1, 4);
    }

    private static void allUndone() {
        Due.by("copies, errors, scribes released and bought in, all of it undone");
        MarginBooks x = Due.told(HOUSE);
        x.copies(0);
        x.errs(1, 4);
        x.releases(0, 1);
        x.releases(0, 0);
        Due.is("undo() of bought in", x.undo(), 3);
        Due.is("RELEASED", x.now(1), 1);
        Due.is("undo() of RELEASED", x.undo(), 2);
        Due.is("bought in", x.now(1), 0);
        Due.is("undo() of an ERROR", x.undo(), 1);
        book("ahead of the ERROR", x, 3, 2, 1);
        Due.is("undo() of a COPY", x.undo(), 0);
        book("ahead of the COPY", x, 1, 3, 0);
        Look.changesNothing("all that was UNDONE", x, Due.told(HOUSE));
    }

    private static void whereItGoes() {
        Due.by("what the book says behind so many copies, who ends the line, when it goes round");
        MarginBooks x = Due.told(HOUSE);
        int[][] books = {{1, 3, 0}, {3, 2, 1}, {1, 0, 4}, {3, 1, 4}, {1, 4, 2}, {3, 4, 0},
            {1, 2, 3}, {3, 0, 2}};
        for (int n = 0; n <= 99; n++) {
            for (int l = 0; l < 3; l++) {
                Due.is("behind(" + n + ", " + l + ")", x.behind(n, l), books[n % 8][l]);
            }
        }
        Due.is("nobody ends it", x.ends(0), NONE);
        Due.is("it goes round by 2x + 1", x.scribe(0, 6), 4);
        Due.is("it goes round by x + 3", x.scribe(1, 6), 5);
        x.errs(0, 4);
        x.errs(1, 4);
        Due.is("2x + 1 ends 4 4 0", x.ends(0), 0);
        Due.by("by which scribes a told book comes, in fewest copies");
        MarginBooks y = Due.told(HOUSE);
        y.aims(1, 0);
        y.aims(2, 4);
        Due.is("1 0 4 comes in 2", y.way(-1), 2);
        Due.is("by the first", y.way(0), 0);
        Due.is("and the next", y.way(1), 1);
    }

    private static void whereItComesFrom() {
        Due.by("from which books this one can have come, what all of these kept");
        // By 2x + 1 of 0 1 2, by x + 3 of 3 0 2.
        MarginBooks x = Due.told(HOUSE);
        Due.is("by 2x + 1", x.from(0), 1);
        Due.is("by x + 3", x.from(1), 1);
        Due.is("by both", x.now(3), 3);
        Due.is("LINE 2 is 2 in both", x.now(4), 4);
    }

    private static void lawsAndLongest() {
        Due.by("which laws fit what was seen in margins, which line tells most");
        MarginBooks x = Due.told(HOUSE);
        x.saw(0, 1);
        Due.is("laws that say 1 of 0", x.fit(0), 5);
        Due.is("what they say of 0 is known: 1 tells most", x.fit(2), 1);
        x.saw(1, 3);
        Due.is("one law", x.fit(0), 1);
        Due.is("2x + 1", x.fit(1), 21);
        Due.is("the first SCRIBE's", x.now(5), 1);
        Due.by("which book lasts longest");
        // Of 4 OPINIONS, by 2x + 1: 0 becomes 1 and 3, which stays, and 2 becomes 1, too.
        MarginBooks y = Due.told("o4;b0 0;s2 1;n2;");
        Due.is("0 0 by 2x + 1 of 4", y.lasts(0), 0);
        Due.is("0 0, 1 1, 3 3", y.lasts(1), 2);
    }

    private static void buyAndOdds() {
        Due.by("whom to buy in so that a line does not end");
        MarginBooks x = Due.told("b0;s0 1;s0 1;s0 2;");
        x.releases(2, 1);
        x.releases(1, 1);
        Due.is("it ends behind 1", x.ends(1), 1);
        Due.is("the third", x.buy(99), 4);
        x.releases(2, 0);
        Due.is("it does not end", x.ends(0), NONE);
        Due.by("the odds of being convinced");
        Due.is("upper", x.odds(3, 2, 0), 49);
        Due.is("lower", x.odds(3, 2, 1), 100);
    }

    private static void kindsAndImages() {
        Due.by("scribes by kinds; images. ======== 1");
        MarginBooks x = Due.told(HOUSE);
        Due.is("HERETIC", x.mark(3, 0), 10);
        Due.is("keep(0)", x.keep(0), 0);
        x.copies(1);
        Due.is("back(0)", x.back(0), 0);
        Look.changesNothing("copies(1) behind back(0)", x, keptAndMarked());
    }

    private static MarginBooks keptAndMarked() {
        MarginBooks x = Due.told(HOUSE);
        x.mark(3, 0);
        x.keep(0);
        return x;
    }

    private static void calls() {
        Due.by("An object is used for at most 512 calls after it has been made");
        MarginBooks copied = Due.told("b0;s1 1;");
        // Eight bytes and house() are nine of them.
        for (int n = 1; n <= CALLS - 9; n++) {
            Due.is("copies(0)", copied.copies(0), n);
        }
        MarginBooks typed = new MarginBooks();
        MarginBooks read = new MarginBooks();
        MarginBooks seen = new MarginBooks();
        MarginBooks dear = Due.told("b1 2 3 4;" + "s1 1;".repeat(6));
        for (int n = 1; n <= CALLS; n++) {
            Due.is("type(' ')", typed.type(' '), n <= 120 ? n : FULL);
            Due.is("house()", read.house(), 0);
            Due.is("saw(0, 0)", seen.saw(0, 0), n <= 6 ? n : FULL);
        }
        for (int n = 1; n <= CALLS - 40; n++) {
            Due.is("lasts(0)", dear.lasts(0), NONE);
        }
        MarginBooks marked = Due.told("b0;s1 1;");
        for (int n = 1; n <= CALLS - 9; n++) {
            Due.is("mark(5, 0)", marked.mark(5, 0), 1);
        }
        Due.is("THE TRACE", marked.trace(), (CALLS - 9) * 100001L);
    }

    private static void byteByByte() {
        Due.by("They are a text (120 bytes at most), read byte by byte");
        // A text that is cut anywhere ends too early or is whole, and goes on where it was cut.
        int[] fault = {0, -11, -12, 1, -14, -15, -16, -17, -18, -19, 2, -21, -22, -23, -24, 3,
            -26, -27, -28, -29, 4, -31, -32, 5};
        for (int cut = 0; cut <= HOUSE.length(); cut++) {
            MarginBooks x = new MarginBooks();
            Due.type(x, HOUSE.substring(0, cut));
            Due.is("house() of " + cut + " bytes", x.house(), fault[cut]);
            if (fault[cut] < 0) {
                Due.type(x, HOUSE.substring(cut));
                Due.is("house() of the rest behind " + cut, x.house(), 5);
                Look.changesNothing("what was cut at " + cut, x, Due.told(HOUSE));
            }
        }
    }

    private static void need() {
        Due.by("; n N (need) ; b, n once each at most.");
        for (int n = 1; n <= 4; n++) {
            MarginBooks x = Due.told("b0 0 0 0;n" + n + ";s1 1;");
            Due.is("NEED", x.count(3), n);
            Due.is("LINES stay", x.count(1), 4);
            Due.is("SCRIBES stay", x.count(2), 1);
        }
    }

    /** Behind o, a letter makes one TOKEN with it that begins no ITEM; nothing else does. */
    private static void tokens() {
        Due.by("TOKENS are letters a .. z side by side, NUMBERS and ; .");
        for (int c = 0; c <= 255; c++) {
            MarginBooks x = new MarginBooks();
            Due.type(x, "o" + (char) c + "2;");
            int want = c == ' ' ? 1 : c >= 'a' && c <= 'z' ? -10 : -11;
            Due.is("house() of o, " + c + ", 2;", x.house(), want);
        }
        for (int n = 0; n <= 9; n++) {
            MarginBooks x = new MarginBooks();
            Due.type(x, "s" + n + ";");
            // Figures are NUMBERS: up to 6 it is the ; that can't stand there, above it is they.
            Due.is("house() of s" + n + ";", x.house(), n <= 6 ? -12 : -11);
        }
    }

    private static void again() {
        Due.by("(letters that begin no ITEM, o behind another ITEM, b, n again, a fifth LINE");
        String[] items = {"o5;", "b1;", "s1 1;", "n2;"};
        for (String first : items) {
            for (String next : items) {
                boolean stands = next.equals("s1 1;") || !next.equals(first) && !next.equals("o5;");
                MarginBooks x = new MarginBooks();
                Due.type(x, first + next);
                Due.is("house() of " + first + next, x.house(),
                        stands ? 2 : -10 - first.length());
            }
        }
    }

    private static void disagrees() {
        Due.by("A SCRIBE DISAGREES with a LINE, if he says something else of it than what it says.");
        for (int turn = 0; turn <= 6; turn++) {
            for (int bent = 0; bent <= 6; bent++) {
                MarginBooks x = Due.told("o4;b0 1 2 3;s" + turn + " " + bent + ";n4;");
                int bits = 0;
                for (int l = 0; l < 4; l++) {
                    bits += (turn * l + bent) % 4 == l ? 0 : 1 << l;
                }
                Due.is("DISAGREES by " + turn + ", " + bent, x.scribe(0, 4), bits);
                Due.is("how many by " + turn + ", " + bent, x.mark(0, 0), Integer.bitCount(bits));
            }
        }
    }

    /** The same house with another book. */
    private static MarginBooks withBook(String house, int book) {
        MarginBooks x = Due.told(house);
        int rest = book;
        for (int l = x.count(1) - 1; l >= 0; l--) {
            x.errs(l, rest % x.count(0));
            rest /= x.count(0);
        }
        return x;
    }

    private static void lasts() {
        Due.by("with which A ROUND has most COPIES, if there is none that goes on for ever, of several"
                + " the least (LINE 0 is the highest figure, to the base of OPINIONS): it; how many;"
                + " NONE");
        for (String house : HOUSES) {
            MarginBooks x = Due.told(house);
            int books = 1;
            for (int l = 0; l < x.count(1); l++) {
                books *= x.count(0);
            }
            int longest = NONE;
            int most = NONE;
            boolean ends = x.count(1) > 0;
            for (int book = 0; book < books; book++) {
                int copies = withBook(house, book).ends(1);
                ends &= copies != NONE;
                if (copies > most) {
                    most = copies;
                    longest = book;
                }
            }
            Due.is("the book in " + house, x.lasts(0), ends ? longest : NONE);
            Due.is("how many in " + house, x.lasts(1), ends ? most : NONE);
        }
    }

    /** Draws every way that it can go, each as likely as all others. */
    private static void odds() {
        Due.by("ODDS by x (0 .. 10), n (0 .. 9): in A ROUND each SCRIBE is CONVINCED by x in 10 ahead"
                + " of each COPY, for itself, besides: that it has n COPIES or more: a fraction.");
        for (String house : HOUSES) {
            int can = copiesDone(house, 4);
            MarginBooks asked = Due.told(house);
            for (int x = 0; x <= 10; x++) {
                int draws = 1;
                for (int n = 0; n <= 4; n++) {
                    int good = 0;
                    for (int draw = 0; draw < draws; draw++) {
                        good += can >= n && copiesDrawn(draw, x, n) >= n ? 1 : 0;
                    }
                    String call = "odds(" + x + ", " + n + ") of " + house;
                    int common = commonDivisor(good, draws);
                    Due.is("upper " + call, asked.odds(x, n, 0), good / common);
                    Due.is("lower " + call, asked.odds(x, n, 1), draws / common);
                    draws *= 10;
                }
            }
        }
    }

    /** How many are done one behind another, up to so many. */
    private static int copiesDone(String house, int most) {
        MarginBooks x = Due.told(house);
        int done = 0;
        while (done < most && x.copies(done % x.count(2)) > 0) {
            done++;
        }
        return done;
    }

    /** Each figure of the draw is one SCRIBE's: below x he is CONVINCED. */
    private static int copiesDrawn(int draw, int x, int n) {
        int rest = draw;
        int copies = 0;
        while (copies < n && rest % 10 >= x) {
            rest /= 10;
            copies++;
        }
        return copies;
    }

    private static int commonDivisor(int a, int b) {
        return a == 0 ? b : commonDivisor(b % a, a);
    }

    private static void marks() {
        Due.by("MARK of a SCRIBE as if of a KIND (numbers in brackets come to THE TRACE as often as"
                + " mark() asks that body; \"up\" is what the KIND above does)");
        MarginBooks x = Due.told("b0 1 2 3;s3 2;s2 6;s0 4;");
        x.copies(1);
        x.copies(0);
        x.copies(1);
        // 0 1 2 3 becomes 1 3 0 2, 0 1 2 3, 1 3 0 2: 3 COPIES, of which 2 by 2x + 1. 3x + 2 makes
        // 0 1 2 3 of it, "4" 4 4 4 4, and 2x + 1 3 2 1 0.
        int[] unlike = {4, 4, 4};
        int[] turn = {3, 2, 0};
        int[] bent = {2, 6, 4};
        int[] times = {1, 2, 0};
        for (int s = 0; s < 3; s++) {
            Due.by("SCRIBE with how many LINES he DISAGREES (1).");
            asked(x, 0, s, unlike[s], 1);
            Due.by("SCOFFER up, and TURN (10).");
            asked(x, 1, s, unlike[s] + turn[s], 11);
            Due.by("MONK up less how often he COPIED (100).");
            asked(x, 2, s, unlike[s] - times[s], 101);
            Due.by("HERETIC up times 2 (1000).");
            asked(x, 3, s, (unlike[s] + turn[s]) * 2, 1011);
            Due.by("NOVICE up, and BENT (10000).");
            asked(x, 4, s, unlike[s] - times[s] + bent[s], 10101);
            Due.by("ABBOT up, and COPIES (100000).");
            asked(x, 5, s, unlike[s] + 3, 100001);
        }
    }

    private static void asked(MarginBooks x, int kind, int s, int mark, long traced) {
        long was = x.trace();
        Due.is("mark(" + kind + ", " + s + ")", x.mark(kind, s), mark);
        Due.is("what it adds to THE TRACE", x.trace() - was, traced);
    }

    private static void belowZero() {
        Due.by("The constants: `NO = -1000000`: What none is, where a number may be below 0.");
        Due.is("NO", MarginBooks.NO, NO);
        MarginBooks x = Due.told("b0;s0 1;s0 2;");
        // By turns, so that the second is CONVINCED by what he wrote: MONK is below 0 by how often.
        for (int n = 1; n <= 12; n++) {
            x.copies(0);
            x.copies(1);
            Due.is("MONK, the numbers of refusals too", x.mark(2, 1), -n);
        }
        Due.is("mark(6, 1)", x.mark(6, 1), NO);
        Due.is("mark(2, 2)", x.mark(2, 2), NO);
    }

    private static void line() {
        Due.by("Of a LINE: 0 THE BOOK's, 1 TARGET's. BAD.");
        MarginBooks x = Due.told(HOUSE);
        x.copies(0);
        x.aims(2, 4);
        book("of THE BOOK", x, 3, 2, 1);
        int[] target = {1, 3, 4};
        for (int l = 0; l < 3; l++) {
            Due.is("LINE " + l + " of TARGET", x.line(l, 1), target[l]);
        }
        Due.is("line(0, 2)", x.line(0, 2), BAD);
        Due.is("line(3, 1)", x.line(3, 1), BAD);
    }

    private static void scribe() {
        Due.by("Of a SCRIBE: 0 TURN, 1 BENT, 2 whether RELEASED, 3 how often he COPIED, 4 with which"
                + " LINES he DISAGREES (bits), 5 whether he is CONVINCED, 6 COMES round (NONE). BAD.");
        MarginBooks x = Due.told("o5;b4 3 0;s2 1;s1 3;s0 4;n2;");
        x.copies(0);
        x.copies(0);
        x.releases(0, 1);
        // 4 3 0 becomes 4 2 1, 4 0 3: with 4 2x + 1 agrees, and "4" too.
        int[][] want = {{2, 1, 1, 2, 6, 0, 4}, {1, 3, 0, 0, 7, 0, 5}, {0, 4, 0, 0, 6, 0, NONE}};
        for (int s = 0; s < 3; s++) {
            for (int what = 0; what <= 6; what++) {
                Due.is("scribe(" + s + ", " + what + ")", x.scribe(s, what), want[s][what]);
            }
        }
        x.errs(1, 4);
        Due.is("CONVINCED", x.scribe(0, 5), 1);
        Due.is("not CONVINCED", x.scribe(1, 5), 0);
        Due.is("scribe(0, 7)", x.scribe(0, 7), BAD);
        Due.is("scribe(3, 0)", x.scribe(3, 0), BAD);
    }

    private static void says() {
        Due.by("What a SCRIBE says of an OPINION. BAD.");
        for (int k = 2; k <= 5; k++) {
            for (int law = 0; law <= 6; law++) {
                MarginBooks x = Due.told("o" + k + ";s" + law + " " + (6 - law) + ";");
                for (int of = 0; of < k; of++) {
                    Due.is("says(0, " + of + ")", x.says(0, of), (law * of + 6 - law) % k);
                }
                Due.is("says(0, " + k + ")", x.says(0, k), BAD);
                Due.is("says(1, 0)", x.says(1, 0), BAD);
            }
        }
    }

    private static void now() {
        Due.by("0 COPIES, 1 who is RELEASED (bits), 2 who is CONVINCED (bits), 3 who can have COPIED"
                + " it last (bits), 4 SAME (bits), 5 BY (bits). BAD.");
        MarginBooks x = Due.told("b0 3;s0 4;s2 1;s1 1;s0 1;");
        x.copies(1);
        x.copies(2);
        x.copies(1);
        x.errs(1, 1);
        x.releases(2, 1);
        x.releases(3, 1);
        x.saw(3, 2);
        x.saw(0, 1);
        // 0 3 becomes 1 2, 2 3, 0 2, and 0 1 by the ERROR: 2x + 1 of 2 0, x + 1 of 4 0.
        int[] want = {3, 12, 0, 6, 2, 2};
        for (int what = 0; what <= 5; what++) {
            Due.is("now(" + what + ")", x.now(what), want[what]);
        }
        x.errs(0, 1);
        Due.is("\"1\" is CONVINCED", x.now(2), 8);
        Due.is("now(-1)", x.now(-1), BAD);
        Due.is("now(6)", x.now(6), BAD);
    }

    private static void behind() {
        Due.by("BEHIND n COPIES: a LINE. BAD.");
        MarginBooks x = Due.told(HOUSE);
        x.releases(0, 1);
        // x + 3 alone.
        int[] first = {1, 3, 0};
        for (int n = 0; n <= 10; n++) {
            for (int l = 0; l < 3; l++) {
                Due.is("behind(" + n + ", " + l + ")", x.behind(n, l), (first[l] + 3 * n) % 5);
            }
        }
        Due.is("behind(100, 0)", x.behind(100, 0), BAD);
        Due.is("behind(0, 3)", x.behind(0, 3), BAD);
    }

    private static void ends() {
        Due.by("ENDS: who (what = 0), behind how many COPIES (1); NONE. BAD.");
        MarginBooks x = Due.told("b0;s0 1;s1 1;s0 2;s1 2;");
        Due.is("the third", x.ends(0), 2);
        Due.is("behind 2", x.ends(1), 2);
        x.releases(2, 1);
        // 1, 2, 4, 1, 2, 4 ..
        Due.is("nobody", x.ends(0), NONE);
        Due.is("for ever", x.ends(1), NONE);
        x.releases(1, 1);
        x.releases(3, 1);
        Due.is("the first himself", x.ends(0), 0);
        Due.is("behind 1", x.ends(1), 1);
        Due.is("ends(2)", x.ends(2), BAD);
        Due.is("ends(-1)", x.ends(-1), BAD);
    }

    private static void lastsOrNone() {
        Due.by("LASTS: the book (what = 0), how many COPIES (1); NONE. BAD.");
        // "1" and then 2x of 4: of 0, 2, 3 it is 1, 2, 1, 2 ..; of 1 he is CONVINCED at once.
        MarginBooks x = Due.told("o4;b1;s0 1;s2 0;");
        Due.is("one goes on", x.lasts(0), NONE);
        Due.is("for ever", x.lasts(1), NONE);
        x.releases(0, 1);
        Due.is("1 becomes 2, 0", x.lasts(0), 1);
        Due.is("in 2", x.lasts(1), 2);
        x.releases(0, 0);
        x.releases(1, 1);
        Due.is("0 becomes 1", x.lasts(0), 0);
        Due.is("in 1", x.lasts(1), 1);
        Due.is("lasts(2)", x.lasts(2), BAD);
    }

    private static void buy() {
        Due.by("BUY, as bits; NONE. BAD.");
        for (int s = 0; s < 6; s++) {
            StringBuilder house = new StringBuilder("b0;");
            for (int t = 0; t < 6; t++) {
                house.append(t == s ? "s1 1;" : "s1 0;");
            }
            MarginBooks x = Due.told(house.toString());
            for (int t = 0; t < 6; t++) {
                x.releases(t, 1);
            }
            Due.is("he who DISAGREES is " + s, x.buy(99), 1 << s);
            x.releases(s, 0);
            Due.is("he is bought in", x.buy(99), 0);
            x.releases((s + 1) % 6, 0);
            Due.is("another ends it", x.buy(99), NONE);
            Due.is("buy(0)", x.buy(0), BAD);
        }
    }

    private static void from() {
        Due.by("FROM: how many books. BAD.");
        MarginBooks x = Due.told("o3;b0 0;s0 0;s3 3;s1 0;s2 0;s1 2;");
        int[] want = {8, 8, 0, 0, 1};
        for (int s = 0; s < 5; s++) {
            Due.is("from(" + s + ")", x.from(s), want[s]);
        }
        Due.is("from(5)", x.from(5), BAD);
        Due.is("from(-1)", x.from(-1), BAD);
    }

    private static void keep() {
        Due.by("An IMAGE is kept: COPIES. BAD.");
        MarginBooks x = Due.told(HOUSE);
        for (int n = 0; n <= 5; n++) {
            Due.is("keep(" + n % 2 + ")", x.keep(n % 2), n);
            x.copies(n % 2);
        }
        Due.is("back(0)", x.back(0), 4);
        Due.is("back(1)", x.back(1), 5);
        Due.is("keep(2)", x.keep(2), BAD);
        Due.is("keep(-1)", x.keep(-1), BAD);
    }
}
