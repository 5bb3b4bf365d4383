/** The document's section 1 and promises 1 to 7: where what a text may tell begins and ends. */
public final class TextBoundariesTest {
    private static final int BAD = -1, STATE = -2, FULL = -3, NONE = -9, NO = -1000000;
    private static final String BEGINNINGS = "obsn";

    private TextBoundariesTest() {
    }

    public static void main(String[] args) {
        opinions();
        opinionsAtFirst();
        lines();
        scribes();
        laws();
        need();
        bytesAtMost();
        bytesOfAllKinds();
        blanks();
        itemsEnd();
        opinionsFirst();
        onceEach();
        lettersThatBeginNone();
        whatCannotStand();
        numbersBeyond();
        badTokens();
        firstOfSeveral();
        endsTooEarly();
        withoutBook();
        howManyItems();
        isEmptyThen();
        nothingIsLeft();
        newObject();
        Due.close();
    }

    /** A house with all that a text could change, and the text typed behind it. */
    private static MarginBooks busy(String text) {
        MarginBooks x = Due.told("o3;b2 1;s1 1;s0 1;n2;");
        x.copies(0);
        x.errs(1, 1);
        x.keep(1);
        x.releases(1, 1);
        x.saw(1, 2);
        x.aims(0, 1);
        x.mark(3, 0);
        Due.type(x, text);
        return x;
    }

    private static void fault(String text, int place) {
        Look.unchanged("house() of \"" + text + "\"", () -> busy(text), MarginBooks::house,
                -10 - place);
    }

    private static MarginBooks items(String text, int want) {
        MarginBooks x = busy(text);
        Due.is("house() of \"" + text + "\"", x.house(), want);
        Due.is("bytes behind \"" + text + "\"", x.count(6), 0);
        return x;
    }

    private static void opinions() {
        Due.by("OPINIONS 0 .. as many as are told less 1 (2 ..");
        for (int k = 2; k <= 5; k++) {
            MarginBooks x = items("o" + k + ";b0 " + (k - 1) + ";s1 1;", 3);
            Due.is("OPINIONS", x.count(0), k);
            Due.is("the highest in THE BOOK", x.line(1, 0), k - 1);
            Due.is("says of the highest", x.says(0, k - 1), 0);
            Due.is("says of one more", x.says(0, k), BAD);
            Due.is("errs to one more", x.errs(0, k), BAD);
            Due.is("errs to the highest", x.errs(0, k - 1), 0);
            Due.is("errs to 0", x.errs(0, 0), k - 1);
            Due.is("aims at one more", x.aims(0, k), BAD);
            Due.is("aims at the highest", x.aims(0, k - 1), 0);
            Due.is("aims at 0", x.aims(0, 0), k - 1);
            Due.is("saw of one more", x.saw(k, 0), BAD);
            Due.is("saw one more", x.saw(0, k), BAD);
            Due.is("saw the highest", x.saw(k - 1, k - 1), 1);
            fault("o" + k + ";b" + k + ";", 4);
        }
        fault("o0;", 1);
        fault("o1;", 1);
        fault("o6;", 1);
        fault("o99;", 1);
    }

    private static void opinionsAtFirst() {
        Due.by("5; 5 at first)");
        Due.is("OPINIONS of a new object", new MarginBooks().count(0), 5);
        Due.is("saw(4, 4)", new MarginBooks().saw(4, 4), 1);
        Due.is("saw(5, 4)", new MarginBooks().saw(5, 4), BAD);
        Due.is("saw(4, 5)", new MarginBooks().saw(4, 5), BAD);
        Due.is("OPINIONS that are not told", items("b4;", 1).count(0), 5);
        fault("b5;", 1);
    }

    private static void lines() {
        Due.by("THE BOOK: LINES 0 .. (4 of them at most), an OPINION each.");
        String text = "b";
        for (int n = 1; n <= 4; n++) {
            text += " " + n;
            MarginBooks x = items(text + ";", 1);
            Due.is("LINES", x.count(1), n);
            Due.is("the last LINE", x.line(n - 1, 0), n);
            Due.is("TARGET's last LINE", x.line(n - 1, 1), n);
            Due.is("one more LINE", x.line(n, 0), BAD);
            Due.is("one more of TARGET", x.line(n, 1), BAD);
            Due.is("a LINE below 0", x.line(-1, 0), BAD);
        }
        Due.by("b and OPINIONS (THE BOOK; 1 to 4 NUMBERS)");
        fault("b;", 1);
        fault("b ;", 2);
        fault("b1 2 3 4 0;", 9);
        fault("b1 2 3 4 0", 9);
    }

    private static void scribes() {
        Due.by("SCRIBES 0 .. (6 of them at most): TURN, BENT (0 .. 6 each)");
        String text = "";
        for (int n = 0; n <= 6; n++) {
            MarginBooks x = items(text, n);
            Due.is("SCRIBES", x.count(2), n);
            Due.is("TURN of one more", x.scribe(n, 0), BAD);
            Due.is("says one more", x.says(n, 0), BAD);
            for (int s = 0; s < n; s++) {
                Due.is("TURN", x.scribe(s, 0), s);
                Due.is("BENT", x.scribe(s, 1), 6 - s);
            }
            text += "s" + n + " " + (6 - n) + ";";
        }
        Due.by("s T B (a scribe)");
        for (int n = 0; n <= 6; n++) {
            MarginBooks x = items("s" + n + " 6;s6 " + n + ";", 2);
            Due.is("TURN " + n, x.scribe(0, 0), n);
            Due.is("BENT " + n, x.scribe(1, 1), n);
        }
        fault("s;", 1);
        fault("s1;", 2);
        fault("s1 1 1;", 5);
        fault("s7 0;", 1);
        fault("s0 7;", 3);
        fault("s10 0;", 1);
        fault("s0 10;", 3);
    }

    private static void laws() {
        Due.by("of an OPINION x he says what is left of TURN times x and BENT together,"
                + " by how many OPINIONS there are.");
        int[] ofHighest = {12 % 2, 18 % 3, 24 % 4, 30 % 5};
        int[] oneLess = {11 % 2, 17 % 3, 23 % 4, 29 % 5};
        for (int k = 2; k <= 5; k++) {
            MarginBooks x = Due.told("o" + k + ";s6 6;s6 5;s0 0;s0 6;s6 0;");
            Due.is("6 times and 6", x.says(0, k - 1), ofHighest[k - 2]);
            Due.is("6 times and 5", x.says(1, k - 1), oneLess[k - 2]);
            Due.is("0 times and 0", x.says(2, k - 1), 0);
            Due.is("0 times and 6", x.says(3, k - 1), 6 % k);
            Due.is("6 times and 0 of 0", x.says(4, 0), 0);
        }
    }

    private static void need() {
        Due.by("NEED (1 .. 4; 1 at first).");
        Due.is("NEED of a new object", new MarginBooks().count(3), 1);
        Due.is("NEED that is not told", items("b0;", 1).count(3), 1);
        for (int n = 1; n <= 4; n++) {
            Due.is("NEED", items("n" + n + ";", 1).count(3), n);
        }
        fault("n0;", 1);
        fault("n5;", 1);
        fault("n10;", 1);
        fault("n;", 1);
        fault("n1 1;", 3);
        // He disagrees with every LINE, and still with fewer than NEED.
        Due.is("NEED above LINES", Due.told("b0 0 0;s1 1;n4;").scribe(0, 5), 1);
    }

    private static String filled(String text, int length) {
        return text + " ".repeat(length - text.length());
    }

    private static void bytesAtMost() {
        Due.by("They are a text (120 bytes at most)");
        MarginBooks x = new MarginBooks();
        String text = filled("b1 2", 119) + ";";
        for (int i = 0; i < 120; i++) {
            Due.is("byte " + i, x.type(text.charAt(i)), i + 1);
        }
        Due.is("a 121st", x.type(' '), FULL);
        Due.is("bytes", x.count(6), 120);
        Due.is("house() of 120", x.house(), 1);
        Due.is("LINE 1", x.line(1, 0), 2);
        Due.is("a byte behind it", x.type('o'), 1);
        Look.unchanged("type() beyond 120", () -> busy(text), y -> y.type(';'), FULL);
        Due.by("`int clear()`: THE TEXT is empty: how many bytes it had.");
        MarginBooks full = busy(text);
        Due.is("clear() of 120", full.clear(), 120);
        Due.is("clear() of 0", full.clear(), 0);
        Due.is("type() then", full.type('o'), 1);
        Due.is("clear() of 1", full.clear(), 1);
        Due.is("house() of nothing that was cleared", full.house(), 0);
        Look.unchanged("clear() of 0", () -> busy(""), MarginBooks::clear, 0);
        MarginBooks cleared = busy("b1;");
        cleared.clear();
        Look.changesNothing("clear(), but for the text", cleared, busy(""));
    }

    private static void bytesOfAllKinds() {
        Due.by("A byte (0 .. 255) comes to THE TEXT: how many it has. BAD; FULL.");
        for (int c = 0; c <= 255; c++) {
            MarginBooks x = new MarginBooks();
            Due.is("type(" + c + ")", x.type(c), 1);
            // A beginning has nothing behind it, a blank is no TOKEN, all else can't stand.
            int want = c == ' ' ? 0 : BEGINNINGS.indexOf(c) >= 0 ? -11 : -10;
            Due.is("house() of byte " + c, x.house(), want);
        }
        int[] none = {-1, 256, -256, 256 + 'o', Integer.MIN_VALUE, Integer.MAX_VALUE};
        for (int c : none) {
            Look.unchanged("type(" + c + ")", () -> busy("o"), x -> x.type(c), BAD);
            Look.unchanged("type(" + c + ") at 120", () -> busy(filled("b0;", 120)),
                    x -> x.type(c), BAD);
        }
    }

    private static void blanks() {
        Due.by("blanks (32) between TOKENS");
        items("   b   1   2   ;   n   2   ;   ", 2);
        items("b1 2;n2;", 2);
        Due.is("a blank parts NUMBERS", items("b1 0;", 1).count(1), 2);
        fault("b10;", 1);
        fault("s11;", 1);
        for (int c = 0; c <= 255; c++) {
            String text = "b1" + (char) c + "1;";
            if (c == ' ') {
                items(text, 1);
            } else if (c == ';') {
                fault(text, 3);
            } else {
                // A figure makes one NUMBER of all three; all else stands where a NUMBER or ; should.
                fault(text, c >= '0' && c <= '9' ? 1 : 2);
            }
        }
    }

    private static void itemsEnd() {
        Due.by("ITEMS, each letters and what is told, ended by ;");
        fault("o2", 2);
        fault("b0", 2);
        fault("s1 1", 4);
        fault("n1", 2);
        fault("o2 b0;", 3);
        fault("b0 n1;", 3);
        fault("s1 1s1 1;", 4);
        fault("n1 s1 1;", 3);
        fault(";", 0);
        fault("b0;;", 3);
        fault("2;", 0);
    }

    private static void opinionsFirst() {
        Due.by("o N (OPINIONS; the first of all, if it is told)");
        items("o4;b3;", 2);
        items("  o4;", 1);
        items("b3;", 1);
        fault("b0;o2;", 3);
        fault("s1 1;o2;", 5);
        fault("n1;o2;", 3);
        fault("o2;o2;", 3);
        fault("o2;b0;o3;", 6);
    }

    private static void onceEach() {
        Due.by("b, n once each at most.");
        items("o2;b0;n1;s0 0;", 4);
        items("n1;b0;", 2);
        fault("b0;b0;", 3);
        fault("b0;s0 0;b1;", 8);
        fault("n1;n1;", 3);
        fault("n2;b0;n2;", 6);
        fault("b0;b", 3);
        fault("n1;n", 3);
        // What was told in a text ahead of it is not told again.
        MarginBooks x = items("b0;n2;", 2);
        Due.type(x, "b1;n3;");
        Due.is("b and n of another text", x.house(), 2);
        MarginBooks y = busy("b0;n1;x");
        Due.is("a text at fault", y.house(), -16);
        y.clear();
        Due.type(y, "b0;n1;");
        Due.is("b and n behind a text at fault", y.house(), 2);
    }

    private static void lettersThatBeginNone() {
        Due.by("letters that begin no ITEM");
        for (char c = 'a'; c <= 'z'; c++) {
            if (BEGINNINGS.indexOf(c) < 0) {
                fault(c + "2;", 0);
                fault("o2;" + c + "1;", 3);
            }
            fault("o" + c + "2;", 0);
            fault(" b" + c + "2;", 1);
        }
        fault("O2;", 0);
        fault("obsn;", 0);
    }

    private static void whatCannotStand() {
        Due.by("the place of the first byte of the first TOKEN that can't stand there");
        fault("o b0;", 2);
        fault("o;", 1);
        fault("b n;", 2);
        fault("b0 n;", 3);
        fault("s o 1;", 2);
        fault("s1 ss;", 3);
        fault("n  2  2;", 6);
        Due.by("a fifth LINE");
        items("b0 0 0 0;", 1);
        fault("b0 0 0 0 0;", 9);
        fault("b0 0 0 0   4", 11);
        Due.by("a seventh scribe");
        String six = "s0 0;".repeat(6);
        items(six, 6);
        items("o2;" + six + "b0;n1;", 9);
        fault(six + "s0 0;", 30);
        fault(six + "  s", 32);
        fault("b0;" + six + "n1;s0 0;", 36);
    }

    private static void numbersBeyond() {
        Due.by("a NUMBER beyond what it may be, too");
        for (int n = 0; n <= 99; n++) {
            number("o", n, 2, 5, ";");
            number("b", n, 0, 4, ";");
            number("o3;b2 ", n, 0, 2, ";");
            number("s", n, 0, 6, " 0;");
            number("s0 ", n, 0, 6, ";");
            number("n", n, 1, 4, ";");
        }
    }

    private static void number(String ahead, int n, int least, int most, String behind) {
        MarginBooks x = new MarginBooks();
        String text = ahead + n + behind;
        Due.type(x, text);
        boolean fits = n >= least && n <= most;
        int items = ahead.indexOf(';') < 0 ? 1 : 2;
        Due.is("house() of \"" + text + "\"", x.house(), fits ? items : -10 - ahead.length());
    }

    private static void badTokens() {
        Due.by("of a byte that begins none, a NUMBER above 99 or with a 0 ahead of others,"
                + " that TOKEN's");
        fault("#", 0);
        fault(" #", 1);
        fault("b0;#", 3);
        fault("b#;", 1);
        fault("b0#;", 2);
        fault("b-1;", 1);
        fault("b0;" + (char) 0, 3);
        fault("b0;" + (char) 255, 3);
        fault("b100;", 1);
        fault("b0 100;", 3);
        fault("o2 100;", 3);
        fault("100;", 0);
        // 4 more than 2 to the 32nd, 64th, 8th: a number that wraps around would be a right one.
        fault("b4294967300;", 1);
        fault("b18446744073709551620;", 1);
        fault("b260;", 1);
        fault("b" + "9".repeat(119), 1);
        fault("b00;", 1);
        fault("b01;", 1);
        fault("b1 01;", 3);
        fault("o02;", 1);
        fault("s01 1;", 1);
        fault("s01;", 1);
        fault("s1 01;", 3);
        fault("n01;", 1);
        fault("b000000000001;", 1);
        items("b0;", 1);
        items("b0 0;", 1);
    }

    private static void firstOfSeveral() {
        Due.by("FAULT: the place of the first byte of the first TOKEN");
        fault("x#", 0);
        fault("#x", 0);
        fault("b5 01;", 1);
        fault("b01 5;", 1);
        fault("b0;b0;b0;", 3);
        fault("o6;x", 1);
        fault("b0 x #", 3);
        fault("o2;b1 2 #", 6);
    }

    private static void endsTooEarly() {
        Due.by("the text's length, if it ends too early.");
        String whole = " o4; b1 3 0 2;s2 1;n2;";
        int items = 0;
        boolean within = false;
        for (int n = 0; n <= whole.length(); n++) {
            String text = whole.substring(0, n);
            if (n > 0) {
                char last = whole.charAt(n - 1);
                items += last == ';' ? 1 : 0;
                within = last != ';' && (within || last != ' ');
            }
            if (within) {
                fault(text, n);
                fault(text + "  ", n + 2);
            } else {
                items(text, items);
            }
        }
        fault(filled("b0;s1", 120), 120);
        fault(filled("b0;", 119) + "s", 120);
    }

    private static void withoutBook() {
        Due.by("(Without b: no LINES.)");
        MarginBooks x = items("s1 1;s0 0;", 2);
        Due.is("LINES", x.count(1), 0);
        Due.is("line(0, 0)", x.line(0, 0), BAD);
        Due.is("line(0, 1)", x.line(0, 1), BAD);
        Due.is("errs(0, 0)", x.errs(0, 0), BAD);
        Due.is("aims(0, 0)", x.aims(0, 0), BAD);
        Due.is("behind(0, 0)", x.behind(0, 0), BAD);
        Due.is("DISAGREES with", x.scribe(0, 4), 0);
        Due.is("CONVINCED", x.scribe(0, 5), 1);
        Due.is("COMES round", x.scribe(0, 6), 1);
        Due.is("copies(0)", x.copies(0), STATE);
        Due.is("all are CONVINCED", x.now(2), 3);
        Due.is("nobody COPIED it last", x.now(3), 0);
        Due.is("SAME", x.now(4), 0);
        Due.is("ends(0)", x.ends(0), 0);
        Due.is("ends(1)", x.ends(1), 0);
        Due.is("lasts(0)", x.lasts(0), NONE);
        Due.is("lasts(1)", x.lasts(1), NONE);
        Due.is("buy(1)", x.buy(1), NONE);
        Due.is("odds(0, 0, 0)", x.odds(0, 0, 0), 1);
        Due.is("odds(0, 1, 0)", x.odds(0, 1, 0), 0);
        Due.is("odds(0, 1, 1)", x.odds(0, 1, 1), 1);
        Due.is("way(-1)", x.way(-1), 0);
        Due.is("way(0)", x.way(0), NONE);
        Due.is("from(0)", x.from(0), 0);
        Due.is("mark(0, 0)", x.mark(0, 0), 0);
    }

    private static void howManyItems() {
        Due.by("`int house()`: THE TEXT tells all, and is empty then: how many ITEMS.");
        items("", 0);
        items("   ", 0);
        items(" ".repeat(120), 0);
        items("n4;", 1);
        MarginBooks x = items("o5;b4 4 4 4;" + "s6 6;".repeat(6) + "n4;", 9);
        Due.is("OPINIONS", x.count(0), 5);
        Due.is("LINES", x.count(1), 4);
        Due.is("SCRIBES", x.count(2), 6);
        Due.is("NEED", x.count(3), 4);
    }

    private static void isEmptyThen() {
        Due.by("(Read anew: as told, no MARGINS, nothing to be UNDONE, TARGET is THE BOOK,"
                + " IMAGES are gone.)");
        String[] texts = {"", "b0 1;s1 1;", "o3;b2 1;s1 1;s0 1;n2;"};
        for (String text : texts) {
            MarginBooks anew = busy(text);
            long traced = anew.trace();
            anew.house();
            Due.is("MARGINS", anew.count(4), 0);
            Due.is("may be UNDONE", anew.count(5), 0);
            Due.is("undo()", anew.undo(), STATE);
            Due.is("COPIES", anew.now(0), 0);
            Due.is("RELEASED", anew.now(1), 0);
            Due.is("back(0)", anew.back(0), STATE);
            Due.is("back(1)", anew.back(1), STATE);
            Due.is("THE TRACE is told by no text", anew.trace(), traced);
            for (int l = 0; l < anew.count(1); l++) {
                Due.is("TARGET", anew.line(l, 1), anew.line(l, 0));
            }
            for (int s = 0; s < anew.count(2); s++) {
                Due.is("he did not COPY", anew.scribe(s, 3), 0);
            }
            // As a new object that reads the same, but for THE TRACE.
            MarginBooks fresh = new MarginBooks();
            Due.type(fresh, text);
            fresh.house();
            Due.holds("as a new one with \"" + text + "\"",
                    Look.now(anew).equals(Look.now(fresh)) && anew.count(0) == fresh.count(0)
                    && anew.count(1) == fresh.count(1) && anew.count(2) == fresh.count(2)
                    && anew.count(3) == fresh.count(3) && anew.lasts(0) == fresh.lasts(0));
        }
    }

    /** What an earlier text told, at fault or not, is not told by a later one. */
    private static void nothingIsLeft() {
        Due.by("-10 less FAULT: nothing changes.");
        String whole = "o2;b1 1 1;s3 3;s2 2;n3;";
        MarginBooks x = busy(whole + "x");
        Due.is("a text at fault", x.house(), -10 - whole.length());
        x.clear();
        asAtFirst("behind a text at fault", x);
        // Three houses, so that none is the first to be read where an earlier one was.
        MarginBooks y = busy(whole);
        Due.is("a house", y.house(), 5);
        asAtFirst("behind a house", y);
        asAtFirst("behind two houses", y);
        Due.type(y, whole);
        Due.is("the house again", y.house(), 5);
        asAtFirst("behind the house again", y);
    }

    private static void asAtFirst(String where, MarginBooks x) {
        Due.is("house() of nothing " + where, x.house(), 0);
        int[] counts = {5, 0, 0, 1, 0, 0, 0};
        for (int what = 0; what < counts.length; what++) {
            Due.is("count(" + what + ") " + where, x.count(what), counts[what]);
        }
        Due.is("line(0, 0) " + where, x.line(0, 0), BAD);
        Due.is("scribe(0, 0) " + where, x.scribe(0, 0), BAD);
        Due.type(x, "b4;s1 1;");
        Due.is("house() of one LINE " + where, x.house(), 2);
        Due.is("its LINE " + where, x.line(0, 0), 4);
        Due.is("its TARGET " + where, x.line(0, 1), 4);
        Due.is("its OPINIONS " + where, x.count(0), 5);
        Due.is("its LINES " + where, x.count(1), 1);
        Due.is("its SCRIBES " + where, x.count(2), 1);
        Due.is("its NEED " + where, x.count(3), 1);
        Due.is("its ROUND " + where, x.behind(1, 0), 0);
        Due.is("COMES round in it " + where, x.scribe(0, 6), 5);
        Due.is("books before it " + where, x.from(0), 1);
    }

    private static void newObject() {
        Due.by("`MarginBooks()`: As told; no LINES, nobody.");
        int[] counts = {5, 0, 0, 1, 0, 0, 0};
        MarginBooks x = new MarginBooks();
        for (int what = 0; what < counts.length; what++) {
            Due.is("count(" + what + ")", x.count(what), counts[what]);
        }
        Due.is("line(0, 0)", x.line(0, 0), BAD);
        Due.is("scribe(0, 0)", x.scribe(0, 0), BAD);
        Due.is("mark(0, 0)", x.mark(0, 0), NO);
        Due.is("undo()", x.undo(), STATE);
        Due.is("back(0)", x.back(0), STATE);
        Due.is("back(1)", x.back(1), STATE);
        Due.is("trace()", x.trace(), 0);
        MarginBooks y = new MarginBooks();
        Due.is("house() of nothing", y.house(), 0);
        Look.changesNothing("house() of nothing in a new object", y, new MarginBooks());
    }
}
