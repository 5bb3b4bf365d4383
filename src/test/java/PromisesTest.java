/** Each promise of the document in turn, with answers worked out by hand. */
public final class PromisesTest {
    private static final int BAD = -1, STATE = -2, FULL = -3, NONE = -9, NO = -1000000;
    private static final int LOWEST = Integer.MIN_VALUE, HIGHEST = Integer.MAX_VALUE;

    private PromisesTest() {
    }

    public static void main(String[] args) {
        constants();
        newObject();
        type();
        clear();
        house();
        faults();
        readAnew();
        line();
        scribe();
        comesRound();
        says();
        copies();
        errs();
        releases();
        aims();
        undo();
        now();
        same();
        behind();
        ends();
        lasts();
        buy();
        odds();
        way();
        from();
        saw();
        forget();
        fit();
        mark();
        images();
        count();
        trace();
        Due.close();
    }

    private static void constants() {
        Due.is("BAD", MarginBooks.BAD, BAD);
        Due.is("STATE", MarginBooks.STATE, STATE);
        Due.is("FULL", MarginBooks.FULL, FULL);
        Due.is("NONE", MarginBooks.NONE, NONE);
        Due.is("NO", MarginBooks.NO, NO);
    }

    private static void newObject() {
        MarginBooks x = new MarginBooks();
        Due.is("1 count(0)", x.count(0), 5);
        Due.is("1 count(1)", x.count(1), 0);
        Due.is("1 count(2)", x.count(2), 0);
        Due.is("1 count(3)", x.count(3), 1);
        Due.is("1 count(4)", x.count(4), 0);
        Due.is("1 count(5)", x.count(5), 0);
        Due.is("1 count(6)", x.count(6), 0);
        Due.is("1 trace()", x.trace(), 0);
        for (int what = 0; what <= 5; what++) {
            Due.is("1 now(" + what + ")", x.now(what), 0);
        }
        Due.is("1 line(0, 0)", x.line(0, 0), BAD);
        Due.is("1 line(0, 1)", x.line(0, 1), BAD);
        Due.is("1 scribe(0, 0)", x.scribe(0, 0), BAD);
        Due.is("1 says(0, 0)", x.says(0, 0), BAD);
        Due.is("1 copies(0)", x.copies(0), BAD);
        Due.is("1 errs(0, 0)", x.errs(0, 0), BAD);
        Due.is("1 releases(0, 1)", x.releases(0, 1), BAD);
        Due.is("1 aims(0, 0)", x.aims(0, 0), BAD);
        Due.is("1 undo()", x.undo(), STATE);
        Due.is("1 behind(0, 0)", x.behind(0, 0), BAD);
        Due.is("1 ends(0)", x.ends(0), NONE);
        Due.is("1 ends(1)", x.ends(1), 0);
        Due.is("1 lasts(0)", x.lasts(0), NONE);
        Due.is("1 lasts(1)", x.lasts(1), NONE);
        Due.is("1 buy(1)", x.buy(1), NONE);
        Due.is("1 odds(0, 0, 1)", x.odds(0, 0, 1), 1);
        Due.is("1 way(-1)", x.way(-1), 0);
        Due.is("1 way(0)", x.way(0), NONE);
        Due.is("1 from(0)", x.from(0), BAD);
        Due.is("1 mark(0, 0)", x.mark(0, 0), NO);
        Due.is("1 back(0)", x.back(0), STATE);
        Due.is("1 keep(0)", x.keep(0), 0);
        Due.is("1 back(0)", x.back(0), 0);
    }

    private static void type() {
        MarginBooks x = new MarginBooks();
        Due.is("2 type(-1)", x.type(-1), BAD);
        Due.is("2 type(256)", x.type(256), BAD);
        Due.is("2 type(lowest)", x.type(LOWEST), BAD);
        Due.is("2 type(highest)", x.type(HIGHEST), BAD);
        Due.is("2 type(0)", x.type(0), 1);
        Due.is("2 type(255)", x.type(255), 2);
        for (int i = 3; i <= 120; i++) {
            Due.is("2 type(32)", x.type(32), i);
        }
        Due.is("2 a 121st", x.type(32), FULL);
        Due.is("2 BAD ahead of FULL", x.type(256), BAD);
        Due.is("2 count(6)", x.count(6), 120);
        Due.is("2 house() of a full text", x.house(), -10);
        Due.is("2 clear()", x.clear(), 120);
        Due.is("2 type(32)", x.type(32), 1);
    }

    private static void clear() {
        MarginBooks x = new MarginBooks();
        Due.is("3 clear()", x.clear(), 0);
        Due.type(x, "s1");
        Due.is("3 clear()", x.clear(), 2);
        Due.is("3 clear() again", x.clear(), 0);
        Due.type(x, "o2;");
        Due.is("3 nothing is left of what was cleared", x.house(), 1);
    }

    private static void house() {
        items("", 0);
        items("    ", 0);
        items("o2;", 1);
        items("  o  2  ;  ", 1);
        items("o5;b4 3 2 1;s6 6;n4;", 4);
        items("n4;s0 0;b4;s1 1;", 4);
        items("s0 0;s0 0;s0 0;s0 0;s0 0;s0 0;", 6);
        items("o2;b0 1 0 1;s0 0;s0 0;s0 0;s0 0;s0 0;s0 0;n1;", 9);
        MarginBooks x = Due.told("o3;b2 0 1;s4 5;s6 0;n2;");
        Due.is("4 OPINIONS", x.count(0), 3);
        Due.is("4 LINES", x.count(1), 3);
        Due.is("4 SCRIBES", x.count(2), 2);
        Due.is("4 NEED", x.count(3), 2);
        Due.is("4 the text is empty", x.count(6), 0);
        Due.is("4 LINE 0", x.line(0, 0), 2);
        Due.is("4 LINE 1", x.line(1, 0), 0);
        Due.is("4 LINE 2", x.line(2, 0), 1);
        Due.is("4 TURN above OPINIONS", x.scribe(0, 0), 4);
        Due.is("4 BENT above OPINIONS", x.scribe(0, 1), 5);
        Due.is("4 TURN of the next", x.scribe(1, 0), 6);
        MarginBooks full = new MarginBooks();
        StringBuilder text = new StringBuilder("b0");
        while (text.length() < 119) {
            text.append(' ');
        }
        Due.type(full, text.append(';').toString());
        Due.is("4 120 bytes", full.house(), 1);
    }

    private static void items(String text, int want) {
        MarginBooks x = new MarginBooks();
        Due.type(x, text);
        Due.is("4 house() of \"" + text + "\"", x.house(), want);
        Due.is("4 then bytes of \"" + text + "\"", x.count(6), 0);
    }

    private static void faults() {
        fault("o", 1);
        fault("o ", 2);
        fault("o2", 2);
        fault("o2 ", 3);
        fault("o1;", 1);
        fault("o6;", 1);
        fault("o 0;", 2);
        fault("o;", 1);
        fault("o2 3;", 3);
        fault("o2 o;", 3);
        fault("o2;o2;", 3);
        fault("b0;o2;", 3);
        fault("n1;o2;", 3);
        fault("s0 0;o2;", 5);
        fault("b", 1);
        fault("b;", 1);
        fault("b5;", 1);
        fault("o3;b2 3;", 6);
        fault("b0 0 0 0 0;", 9);
        fault("b0 0 0 0 x;", 9);
        fault("b0 0 0 0", 8);
        fault("b0 0", 4);
        fault("b0 s;", 3);
        fault("b0;b0;", 3);
        fault("b0;n1;b0;", 6);
        fault("s", 1);
        fault("s;", 1);
        fault("s1;", 2);
        fault("s1 ", 3);
        fault("s7 0;", 1);
        fault("s0 7;", 3);
        fault("s0 0 0;", 5);
        fault("s0 0", 4);
        fault("s0 0;s0 0;s0 0;s0 0;s0 0;s0 0;s0 0;", 30);
        fault("s0 0;s0 0;s0 0;s0 0;s0 0;s0 0; s", 31);
        fault("n0;", 1);
        fault("n5;", 1);
        fault("n1 1;", 3);
        fault("n1;n1;", 3);
        fault("x;", 0);
        fault("oo2;", 0);
        fault("oz2;", 0);
        fault("oa2;", 0);
        fault("b19;", 1);
        fault("b90;", 1);
        fault("os", 0);
        fault("o2;bs", 3);
        fault(";", 0);
        fault("o2;;", 3);
        fault("7", 0);
        fault("  0;", 2);
        fault("b01;", 1);
        fault("b00;", 1);
        fault("b0 00;", 3);
        fault("b100;", 1);
        fault("n 99;", 2);
        fault("b4294967296;", 1);
        fault("b99999999999999999999999999999999999999;", 1);
        fault("B0;", 0);
        fault("b-1;", 1);
        fault("b0,1;", 2);
        fault("b0\t1;", 2);
        fault("b0;#", 3);
        fault("x;#", 0);
        fault("#x", 0);
        fault("`", 0);
        fault("{", 0);
        fault("b/;", 1);
        fault("b:;", 1);
        fault("b0;" + (char) 0, 3);
        fault("b0;" + (char) 255, 3);
    }

    /** A text at fault changes nothing, itself neither. */
    private static void fault(String text, int place) {
        MarginBooks x = Due.told("o3;b2 1;s1 1;n2;");
        x.copies(0);
        x.saw(1, 2);
        x.keep(1);
        x.aims(0, 1);
        Due.type(x, text);
        Due.is("4 house() of \"" + text + "\"", x.house(), -10 - place);
        String then = " behind \"" + text + "\"";
        Due.is("4 bytes" + then, x.count(6), text.length());
        Due.is("4 OPINIONS" + then, x.count(0), 3);
        Due.is("4 LINES" + then, x.count(1), 2);
        Due.is("4 SCRIBES" + then, x.count(2), 1);
        Due.is("4 NEED" + then, x.count(3), 2);
        Due.is("4 MARGINS" + then, x.count(4), 1);
        Due.is("4 UNDONE" + then, x.count(5), 1);
        Due.is("4 LINE 1" + then, x.line(1, 0), 2);
        Due.is("4 TARGET" + then, x.line(0, 1), 1);
        Due.is("4 TURN" + then, x.scribe(0, 0), 1);
        Due.is("4 says" + then, x.says(0, 2), 0);
        Due.is("4 ends" + then, x.ends(1), NONE);
        Due.is("4 image" + then, x.back(1), 1);
        Due.is("4 no image" + then, x.back(0), STATE);
    }

    private static void readAnew() {
        MarginBooks x = Due.told("o3;b2 1;s1 1;s2 0;n2;");
        x.copies(0);
        x.releases(1, 1);
        x.saw(0, 1);
        x.keep(0);
        x.keep(1);
        x.aims(0, 0);
        x.mark(0, 0);
        Due.type(x, "b3;s1 2;");
        Due.is("4 house() anew", x.house(), 2);
        Due.is("4 OPINIONS as at first", x.count(0), 5);
        Due.is("4 NEED as at first", x.count(3), 1);
        Due.is("4 one LINE", x.count(1), 1);
        Due.is("4 one SCRIBE", x.count(2), 1);
        Due.is("4 no MARGINS", x.count(4), 0);
        Due.is("4 nothing to be UNDONE", x.count(5), 0);
        Due.is("4 undo()", x.undo(), STATE);
        Due.is("4 no COPIES", x.now(0), 0);
        Due.is("4 nobody is RELEASED", x.now(1), 0);
        Due.is("4 he did not COPY", x.scribe(0, 3), 0);
        Due.is("4 TARGET is THE BOOK", x.line(0, 1), 3);
        Due.is("4 image 0 is gone", x.back(0), STATE);
        Due.is("4 image 1 is gone", x.back(1), STATE);
        Due.is("4 the trace stays", x.trace(), 1);
        Due.is("4 house() of nothing", x.house(), 0);
        Due.is("4 then no LINES", x.count(1), 0);
        Due.is("4 then nobody", x.count(2), 0);
        Due.type(x, "o2;b1 1 1 1;s0 0;n4;");
        Due.is("4 a third house", x.house(), 4);
        Due.is("4 its rounds", x.lasts(0), 15);
        Due.type(x, "s0 3;b1;");
        Due.is("4 a fourth house", x.house(), 2);
        Due.is("4 its OPINIONS", x.count(0), 5);
        Due.is("4 its NEED", x.count(3), 1);
        Due.is("4 its LINE", x.line(0, 0), 1);
        Due.is("4 its rounds, too", x.lasts(0), 0);
        Due.is("4 COMES round in it", x.scribe(0, 6), NONE);
    }

    private static void line() {
        MarginBooks x = Due.told("b4 0 2;s1 1;");
        Due.is("5 line(0, 0)", x.line(0, 0), 4);
        Due.is("5 line(1, 0)", x.line(1, 0), 0);
        Due.is("5 line(2, 0)", x.line(2, 0), 2);
        x.copies(0);
        Due.is("5 line(0, 0) of the copy", x.line(0, 0), 0);
        Due.is("5 line(1, 0) of the copy", x.line(1, 0), 1);
        Due.is("5 line(2, 0) of the copy", x.line(2, 0), 3);
        Due.is("5 line(0, 1)", x.line(0, 1), 4);
        Due.is("5 line(2, 1)", x.line(2, 1), 2);
        Due.is("5 line(3, 0)", x.line(3, 0), BAD);
        Due.is("5 line(3, 1)", x.line(3, 1), BAD);
        Due.is("5 line(-1, 0)", x.line(-1, 0), BAD);
        Due.is("5 line(0, 2)", x.line(0, 2), BAD);
        Due.is("5 line(0, -1)", x.line(0, -1), BAD);
        Due.is("5 line(highest, 0)", x.line(HIGHEST, 0), BAD);
        Due.is("5 line(lowest, 0)", x.line(LOWEST, 0), BAD);
    }

    private static void scribe() {
        // Of 3 OPINIONS: scribe 0 says x + 1, scribe 1 (5 times x and 4) says 2x + 1.
        MarginBooks x = Due.told("o3;b0 2 1;s1 1;s5 4;n2;");
        Due.is("6 TURN", x.scribe(1, 0), 5);
        Due.is("6 BENT", x.scribe(1, 1), 4);
        Due.is("6 DISAGREES", x.scribe(0, 4), 7);
        Due.is("6 CONVINCED", x.scribe(0, 5), 0);
        Due.is("6 DISAGREES of 1", x.scribe(1, 4), 5);
        Due.is("6 with NEED LINES he is not CONVINCED", x.scribe(1, 5), 0);
        x.copies(1);
        Due.is("6 how often", x.scribe(1, 3), 1);
        Due.is("6 how often the other", x.scribe(0, 3), 0);
        x.errs(0, 2);
        Due.is("6 DISAGREES with the last one", x.scribe(1, 4), 4);
        Due.is("6 one below NEED: CONVINCED", x.scribe(1, 5), 1);
        x.releases(0, 1);
        Due.is("6 RELEASED", x.scribe(0, 2), 1);
        Due.is("6 not RELEASED", x.scribe(1, 2), 0);
        Due.is("6 RELEASED, and not CONVINCED", x.scribe(0, 5), 0);
        Due.is("6 RELEASED, and DISAGREES", x.scribe(0, 4), 7);
        Due.is("6 scribe(2, 0)", x.scribe(2, 0), BAD);
        Due.is("6 scribe(-1, 0)", x.scribe(-1, 0), BAD);
        Due.is("6 scribe(0, 7)", x.scribe(0, 7), BAD);
        Due.is("6 scribe(0, -1)", x.scribe(0, -1), BAD);
        Due.is("6 scribe(highest, 6)", x.scribe(HIGHEST, 6), BAD);
        Due.is("6 scribe(lowest, 6)", x.scribe(LOWEST, 6), BAD);
    }

    private static void comesRound() {
        // s1 1: a round of 5. s4 0: x and -x, 2. s2 0: a round of 4. s1 0: all stay. s0 3: all are 3.
        MarginBooks x = Due.told("b1 2;s1 1;s4 0;s2 0;s1 0;s0 3;n4;");
        Due.is("6 round of 5, though CONVINCED", x.scribe(0, 6), 5);
        Due.is("6 round of 2", x.scribe(1, 6), 2);
        Due.is("6 round of 4", x.scribe(2, 6), 4);
        Due.is("6 nothing moves", x.scribe(3, 6), 1);
        Due.is("6 never", x.scribe(4, 6), NONE);
        x.releases(2, 1);
        Due.is("6 round of 4, though RELEASED", x.scribe(2, 6), 4);
        x.errs(0, 3);
        x.errs(1, 3);
        Due.is("6 all are 3 already", x.scribe(4, 6), 1);
        x.errs(0, 0);
        x.errs(1, 0);
        Due.is("6 0 stays by 2x", x.scribe(2, 6), 1);
        // Of 4 OPINIONS 2x and 1 leads to 1 and 3 alone.
        MarginBooks y = Due.told("o4;b0;s2 1;s3 1;");
        Due.is("6 it is left for good", y.scribe(0, 6), NONE);
        Due.is("6 3x and 1: 0, 1, 0", y.scribe(1, 6), 2);
        MarginBooks none = Due.told("s1 1;");
        Due.is("6 no LINES", none.scribe(0, 6), 1);
    }

    private static void says() {
        MarginBooks x = Due.told("o4;s3 6;s0 5;s6 6;");
        Due.is("7 says(0, 0)", x.says(0, 0), 2);
        Due.is("7 says(0, 1)", x.says(0, 1), 1);
        Due.is("7 says(0, 2)", x.says(0, 2), 0);
        Due.is("7 says(0, 3)", x.says(0, 3), 3);
        Due.is("7 says(1, 3)", x.says(1, 3), 1);
        Due.is("7 says(2, 3)", x.says(2, 3), 0);
        Due.is("7 says(0, 4)", x.says(0, 4), BAD);
        Due.is("7 says(0, -1)", x.says(0, -1), BAD);
        Due.is("7 says(3, 0)", x.says(3, 0), BAD);
        Due.is("7 says(-1, 0)", x.says(-1, 0), BAD);
        Due.is("7 says(highest, highest)", x.says(HIGHEST, HIGHEST), BAD);
        x.releases(1, 1);
        Due.is("7 one who is RELEASED", x.says(1, 0), 1);
    }

    private static void copies() {
        MarginBooks x = Due.told("b0 1;s1 1;s0 3;n2;");
        Due.is("8 copies(2)", x.copies(2), BAD);
        Due.is("8 copies(-1)", x.copies(-1), BAD);
        Due.is("8 copies(highest)", x.copies(HIGHEST), BAD);
        Due.is("8 copies(0)", x.copies(0), 1);
        Due.is("8 LINE 0", x.line(0, 0), 1);
        Due.is("8 LINE 1", x.line(1, 0), 2);
        Due.is("8 copies(1)", x.copies(1), 2);
        Due.is("8 LINE 0 of 1", x.line(0, 0), 3);
        Due.is("8 LINE 1 of 1", x.line(1, 0), 3);
        Due.is("8 he is CONVINCED", x.copies(1), STATE);
        x.releases(0, 1);
        Due.is("8 he is RELEASED", x.copies(0), STATE);
        Due.is("8 COPIES", x.now(0), 2);
        Due.is("8 LINE 0 stays", x.line(0, 0), 3);
        Due.is("8 what may be UNDONE stays", x.count(5), 3);
        x.errs(0, 1);
        Due.is("8 CONVINCED below NEED", x.copies(1), STATE);
        x.errs(1, 1);
        Due.is("8 NEED is enough", x.copies(1), 3);
        Due.is("8 how often", x.scribe(1, 3), 2);
        Due.is("8 TARGET stays", x.line(0, 1), 0);
        Due.is("8 no LINES", Due.told("s1 1;").copies(0), STATE);
    }

    private static void errs() {
        MarginBooks x = Due.told("o3;b0 1;s1 1;");
        Due.is("9 errs(0, 2)", x.errs(0, 2), 0);
        Due.is("9 LINE 0", x.line(0, 0), 2);
        Due.is("9 LINE 1", x.line(1, 0), 1);
        Due.is("9 errs(1, 0)", x.errs(1, 0), 1);
        Due.is("9 LINE 1", x.line(1, 0), 0);
        Due.is("9 it says so", x.errs(1, 0), STATE);
        Due.is("9 COPIES stay", x.now(0), 0);
        Due.is("9 two may be UNDONE", x.count(5), 2);
        Due.is("9 TARGET stays", x.line(0, 1), 0);
        Due.is("9 errs(2, 0)", x.errs(2, 0), BAD);
        Due.is("9 errs(-1, 0)", x.errs(-1, 0), BAD);
        Due.is("9 errs(0, 3)", x.errs(0, 3), BAD);
        Due.is("9 errs(0, -1)", x.errs(0, -1), BAD);
        Due.is("9 errs(highest, lowest)", x.errs(HIGHEST, LOWEST), BAD);
    }

    private static void releases() {
        MarginBooks x = Due.told("b0;s1 1;s1 2;s1 3;");
        Due.is("10 it is so at first", x.releases(1, 0), STATE);
        Due.is("10 releases(1, 1)", x.releases(1, 1), 1);
        Due.is("10 releases(2, 1)", x.releases(2, 1), 2);
        Due.is("10 it is so", x.releases(2, 1), STATE);
        Due.is("10 bits", x.now(1), 6);
        Due.is("10 releases(1, 0)", x.releases(1, 0), 1);
        Due.is("10 bits then", x.now(1), 4);
        Due.is("10 three may be UNDONE", x.count(5), 3);
        Due.is("10 releases(3, 1)", x.releases(3, 1), BAD);
        Due.is("10 releases(-1, 1)", x.releases(-1, 1), BAD);
        Due.is("10 releases(0, 2)", x.releases(0, 2), BAD);
        Due.is("10 releases(0, -1)", x.releases(0, -1), BAD);
    }

    private static void aims() {
        MarginBooks x = Due.told("o4;b0 1;s1 1;");
        Due.is("11 aims(1, 3)", x.aims(1, 3), 1);
        Due.is("11 TARGET 1", x.line(1, 1), 3);
        Due.is("11 TARGET 0", x.line(0, 1), 0);
        Due.is("11 THE BOOK", x.line(1, 0), 1);
        Due.is("11 the same again", x.aims(1, 3), 3);
        Due.is("11 nothing to be UNDONE", x.count(5), 0);
        x.errs(0, 2);
        x.aims(0, 3);
        Due.is("11 undo()", x.undo(), 0);
        Due.is("11 is not UNDONE", x.line(0, 1), 3);
        x.keep(0);
        x.aims(0, 1);
        x.back(0);
        Due.is("11 is not in an IMAGE", x.line(0, 1), 1);
        Due.is("11 aims(2, 0)", x.aims(2, 0), BAD);
        Due.is("11 aims(-1, 0)", x.aims(-1, 0), BAD);
        Due.is("11 aims(0, 4)", x.aims(0, 4), BAD);
        Due.is("11 aims(0, -1)", x.aims(0, -1), BAD);
    }

    private static void undo() {
        MarginBooks x = Due.told("b0 1;s1 1;s1 2;");
        x.saw(0, 1);
        x.copies(0);
        x.errs(1, 0);
        x.releases(0, 1);
        x.releases(0, 0);
        x.forget();
        Due.is("12 bought in", x.undo(), 3);
        Due.is("12 RELEASED again", x.now(1), 1);
        Due.is("12 RELEASED", x.undo(), 2);
        Due.is("12 nobody is", x.now(1), 0);
        Due.is("12 ERROR", x.undo(), 1);
        Due.is("12 LINE 1", x.line(1, 0), 2);
        Due.is("12 COPIED", x.undo(), 0);
        Due.is("12 LINE 1 at first", x.line(1, 0), 1);
        Due.is("12 COPIES", x.now(0), 0);
        Due.is("12 how often", x.scribe(0, 3), 0);
        Due.is("12 none", x.undo(), STATE);
        Due.is("12 MARGINS are not UNDONE", x.count(4), 0);
        for (int i = 1; i <= 12; i++) {
            x.copies(i % 2);
            Due.is("12 known", x.count(5), Math.min(i, 10));
        }
        for (int i = 9; i >= 0; i--) {
            Due.is("12 undo()", x.undo(), i);
        }
        Due.is("12 two are lost", x.undo(), STATE);
        Due.is("12 two COPIES stay", x.now(0), 2);
        Due.is("12 one by 0", x.scribe(0, 3), 1);
        Due.is("12 one by 1", x.scribe(1, 3), 1);
        Due.is("12 LINE 0 of these", x.line(0, 0), 3);
        x.errs(0, 0);
        Due.is("12 another may be", x.undo(), 0);
        Due.is("12 LINE 0 as ahead of it", x.line(0, 0), 3);
    }

    private static void now() {
        MarginBooks x = Due.told("o3;b1 1;s1 1;s0 1;s2 2;s0 0;n2;");
        Due.is("13 now(2)", x.now(2), 6);
        x.releases(2, 1);
        x.releases(0, 1);
        Due.is("13 now(1)", x.now(1), 5);
        Due.is("13 RELEASED is not CONVINCED for that", x.now(2), 6);
        // 1 1 comes by x + 1 of 0 0; by "1" of the four books with no 1; by 2x + 2 of 1 1, which
        // he does not COPY; by "0" of none.
        Due.is("13 now(3), RELEASED or not", x.now(3), 3);
        Due.is("13 now(4)", x.now(4), 0);
        Due.is("13 now(5) without MARGINS", x.now(5), 15);
        x.saw(1, 1);
        Due.is("13 now(5)", x.now(5), 6);
        x.saw(0, 1);
        Due.is("13 now(5) of two", x.now(5), 2);
        x.saw(0, 0);
        Due.is("13 now(5) of what can't be", x.now(5), 0);
        x.releases(0, 0);
        x.copies(0);
        Due.is("13 now(0)", x.now(0), 1);
        Due.is("13 now(2) with the first one", Due.told("b1;s1 0;s1 1;").now(2), 1);
        Due.is("13 now(6)", x.now(6), BAD);
        Due.is("13 now(-1)", x.now(-1), BAD);
        Due.is("13 now(highest)", x.now(HIGHEST), BAD);
    }

    private static void same() {
        // 2 0 of 3 OPINIONS: by x + 1 of 1 2; by 2x + 2 (0:2, 1:1, 2:0) of 0 2: LINE 1 is alike.
        MarginBooks x = Due.told("o3;b2 0;s1 1;s2 2;");
        Due.is("13 who COPIED", x.now(3), 3);
        Due.is("13 SAME", x.now(4), 2);
        x.releases(0, 1);
        x.releases(1, 1);
        Due.is("13 SAME by the RELEASED", x.now(4), 2);
        // One book alone: all of its LINES.
        MarginBooks y = Due.told("b0 1 2 3;s1 1;");
        Due.is("13 SAME of one", y.now(4), 15);
        // 1 1 by "1" of all books but itself.
        MarginBooks z = Due.told("o2;b1 1;s0 1;");
        Due.is("13 how many", z.from(0), 3);
        Due.is("13 SAME of three", z.now(4), 0);
        Due.is("13 SAME of none", Due.told("o2;b0 1;s0 1;").now(4), 0);
        // Of 4 OPINIONS, 2x: 2 comes of 1 and 3, 0 of 0 and 2; two at least: 0 2 of 2 1, 2 3.
        MarginBooks even = Due.told("o4;b0 2;s2 0;n2;");
        Due.is("13 from two books", even.from(0), 2);
        Due.is("13 alike in LINE 0", even.now(4), 1);
    }

    private static void behind() {
        // x + 1, then "0", again and again: 1, then 2, 0, 1, 0, 1, 0 ..
        MarginBooks x = Due.told("b1 3;s1 1;s0 0;");
        int[] zero = {1, 2, 0, 1, 0, 1, 0};
        int[] one = {3, 4, 0, 1, 0, 1, 0};
        for (int n = 0; n < zero.length; n++) {
            Due.is("14 behind(" + n + ", 0)", x.behind(n, 0), zero[n]);
            Due.is("14 behind(" + n + ", 1)", x.behind(n, 1), one[n]);
        }
        Due.is("14 behind(98, 0)", x.behind(98, 0), 0);
        Due.is("14 behind(99, 0)", x.behind(99, 0), 1);
        Due.is("14 nothing changes", x.line(0, 0), 1);
        Due.is("14 no COPIES", x.now(0), 0);
        x.releases(0, 1);
        Due.is("14 by 1 alone", x.behind(1, 0), 0);
        Due.is("14 no more than there are", x.behind(99, 1), 0);
        x.releases(1, 1);
        Due.is("14 by nobody", x.behind(99, 1), 3);
        Due.is("14 behind(-1, 0)", x.behind(-1, 0), BAD);
        Due.is("14 behind(100, 0)", x.behind(100, 0), BAD);
        Due.is("14 behind(0, 2)", x.behind(0, 2), BAD);
        Due.is("14 behind(0, -1)", x.behind(0, -1), BAD);
        Due.is("14 behind(highest, 0)", x.behind(HIGHEST, 0), BAD);
    }

    private static void ends() {
        // "1", 2x, "2": 0 becomes 1, 2, and the third is CONVINCED.
        MarginBooks x = Due.told("b0;s0 1;s2 0;s0 2;");
        Due.is("15 who", x.ends(0), 2);
        Due.is("15 behind how many", x.ends(1), 2);
        x.releases(1, 1);
        // "1", "2", for ever
        Due.is("15 nobody ever", x.ends(0), NONE);
        Due.is("15 nobody ever, no number", x.ends(1), NONE);
        x.releases(2, 1);
        Due.is("15 alone", x.ends(0), 0);
        Due.is("15 alone behind 1", x.ends(1), 1);
        x.releases(0, 1);
        Due.is("15 nobody is bought in", x.ends(0), NONE);
        Due.is("15 nobody is bought in: 0", x.ends(1), 0);
        x.releases(2, 0);
        x.errs(0, 2);
        Due.is("15 at once", x.ends(0), 2);
        Due.is("15 behind 0", x.ends(1), 0);
        Due.is("15 ends(2)", x.ends(2), BAD);
        Due.is("15 ends(-1)", x.ends(-1), BAD);
        MarginBooks y = Due.told("s1 1;s1 1;");
        y.releases(0, 1);
        Due.is("15 no LINES", y.ends(0), 1);
        Due.is("15 no LINES behind 0", y.ends(1), 0);
    }

    private static void lasts() {
        // "0 of 3 alone": 0 0 lasts not at all, all others 1; the least is 0 1.
        MarginBooks x = Due.told("o3;b2 2;s0 0;s1 1;");
        Due.is("16 one goes on for ever", x.lasts(0), NONE);
        Due.is("16 one goes on for ever: no number", x.lasts(1), NONE);
        x.releases(1, 1);
        Due.is("16 LINE 0 is the highest", x.lasts(0), 1);
        Due.is("16 how many", x.lasts(1), 1);
        x.releases(0, 1);
        Due.is("16 nobody is bought in", x.lasts(0), NONE);
        Due.is("16 nobody is bought in: no number", x.lasts(1), NONE);
        // Doubling of 4 OPINIONS: 1 becomes 2, 0; odd ones last 2.
        MarginBooks y = Due.told("o4;b0 0;s2 0;n1;");
        Due.is("16 0 1 lasts longest", y.lasts(0), 1);
        Due.is("16 2 COPIES", y.lasts(1), 2);
        // With both LINES needed it takes two figures: 1 1 is the least odd pair, 5.
        MarginBooks z = Due.told("o4;b0 0;s2 0;n2;");
        Due.is("16 1 1 lasts longest", z.lasts(0), 5);
        Due.is("16 2 COPIES with NEED 2", z.lasts(1), 2);
        // 3x + 2 of 4: 1 stays, 3 too; 0 and 2 change for ever, unless "1" comes behind: 0, 2, 1,
        // and the first is CONVINCED. The longest, 0, is not the last one.
        MarginBooks first = Due.told("o4;b3;s3 2;s0 1;");
        Due.is("16 the longest", first.lasts(0), 0);
        Due.is("16 its COPIES", first.lasts(1), 2);
        MarginBooks convinced = Due.told("b3;s1 0;");
        Due.is("16 all last 0: the least", convinced.lasts(0), 0);
        Due.is("16 0 COPIES", convinced.lasts(1), 0);
        MarginBooks none = Due.told("s1 1;");
        Due.is("16 no LINES", none.lasts(0), NONE);
        Due.is("16 no LINES: no number", none.lasts(1), NONE);
        Due.is("16 lasts(2)", x.lasts(2), BAD);
        Due.is("16 lasts(-1)", x.lasts(-1), BAD);
        Due.is("16 BAD ahead of NONE", none.lasts(2), BAD);
    }

    private static void buy() {
        // "1" alone COPIES once; with "2" and "3" behind it: for ever.
        MarginBooks x = Due.told("b0;s0 1;s0 1;s0 2;s0 3;");
        x.releases(1, 1);
        x.releases(2, 1);
        x.releases(3, 1);
        Due.is("17 it has 1", x.buy(1), 0);
        Due.is("17 the least of two", x.buy(2), 4);
        Due.is("17 for ever", x.buy(99), 4);
        Due.is("17 nobody was bought", x.now(1), 14);
        x.releases(2, 0);
        Due.is("17 it goes on", x.buy(99), 0);
        // Only both together lead on: "1", 2x: 2, 2x: 4 .. and each alone ends it.
        MarginBooks y = Due.told("b0;s0 1;s1 0;s2 0;s0 3;");
        y.releases(2, 1);
        y.releases(3, 1);
        y.releases(1, 1);
        Due.is("17 2 by the least", y.buy(2), 4);
        y.releases(0, 1);
        Due.is("17 1 by the least", y.buy(1), 1);
        MarginBooks z = Due.told("o2;b0;s0 1;s0 1;s0 0;");
        z.releases(0, 1);
        z.releases(1, 1);
        z.releases(2, 1);
        Due.is("17 one is enough", z.buy(1), 1);
        Due.is("17 two are needed", z.buy(2), 5);
        Due.is("17 two for ever", z.buy(99), 5);
        MarginBooks none = Due.told("b0;s1 0;s1 0;");
        none.releases(0, 1);
        Due.is("17 it can't be", none.buy(1), NONE);
        Due.is("17 no LINES", Due.told("s1 1;").buy(1), NONE);
        Due.is("17 buy(0)", x.buy(0), BAD);
        Due.is("17 buy(100)", x.buy(100), BAD);
        Due.is("17 buy(-1)", x.buy(-1), BAD);
        Due.is("17 buy(lowest)", x.buy(LOWEST), BAD);
    }

    private static void odds() {
        MarginBooks x = Due.told("b0;s1 1;");
        fraction(x, 0, 0, 1, 1);
        fraction(x, 0, 9, 1, 1);
        fraction(x, 10, 0, 1, 1);
        fraction(x, 10, 1, 0, 1);
        fraction(x, 10, 9, 0, 1);
        fraction(x, 1, 1, 9, 10);
        fraction(x, 1, 9, 387420489, 1000000000);
        fraction(x, 7, 9, 19683, 1000000000);
        fraction(x, 9, 9, 1, 1000000000);
        fraction(x, 2, 3, 64, 125);
        fraction(x, 4, 2, 9, 25);
        fraction(x, 5, 4, 1, 16);
        fraction(x, 6, 2, 4, 25);
        fraction(x, 8, 2, 1, 25);
        // "1" COPIES once and is CONVINCED then.
        MarginBooks y = Due.told("b0;s0 1;");
        fraction(y, 3, 0, 1, 1);
        fraction(y, 3, 1, 7, 10);
        fraction(y, 3, 2, 0, 1);
        fraction(y, 0, 2, 0, 1);
        y.releases(0, 1);
        fraction(y, 3, 0, 1, 1);
        fraction(y, 3, 1, 0, 1);
        Due.is("18 odds(-1, 0, 0)", x.odds(-1, 0, 0), BAD);
        Due.is("18 odds(11, 0, 0)", x.odds(11, 0, 0), BAD);
        Due.is("18 odds(0, -1, 0)", x.odds(0, -1, 0), BAD);
        Due.is("18 odds(0, 10, 0)", x.odds(0, 10, 0), BAD);
        Due.is("18 odds(0, 0, 2)", x.odds(0, 0, 2), BAD);
        Due.is("18 odds(0, 0, -1)", x.odds(0, 0, -1), BAD);
    }

    private static void fraction(MarginBooks x, int by, int n, int upper, int lower) {
        Due.is("18 odds(" + by + ", " + n + ", 0)", x.odds(by, n, 0), upper);
        Due.is("18 odds(" + by + ", " + n + ", 1)", x.odds(by, n, 1), lower);
    }

    private static void way() {
        // x + 1, x + 2: from 0 to 4 in two by the second twice; to 3 by 0 and then 1.
        MarginBooks x = Due.told("b0;s1 1;s1 2;");
        Due.is("19 none is needed", x.way(-1), 0);
        Due.is("19 no first one", x.way(0), NONE);
        x.aims(0, 4);
        Due.is("19 to 4", x.way(-1), 2);
        Due.is("19 first", x.way(0), 1);
        Due.is("19 second", x.way(1), 1);
        Due.is("19 no third", x.way(2), NONE);
        x.aims(0, 3);
        Due.is("19 to 3", x.way(-1), 2);
        Due.is("19 first by 0", x.way(0), 0);
        Due.is("19 second by 1", x.way(1), 1);
        x.releases(1, 1);
        Due.is("19 without 1", x.way(-1), 3);
        Due.is("19 third by 0", x.way(2), 0);
        x.releases(0, 1);
        Due.is("19 by nobody", x.way(-1), NONE);
        Due.is("19 by nobody, first", x.way(0), NONE);
        Due.is("19 way(-2)", x.way(-2), BAD);
        Due.is("19 way(lowest)", x.way(LOWEST), BAD);
        Due.is("19 way(highest)", x.way(HIGHEST), NONE);
        // He who is CONVINCED does not COPY: 2x + 1 keeps 4, and with NEED 2 4 0 can't go on.
        MarginBooks y = Due.told("b4 0;s2 1;n2;");
        y.aims(1, 1);
        Due.is("19 CONVINCED", y.way(-1), NONE);
        // The same with NEED 1.
        MarginBooks z = Due.told("b4 0;s2 1;");
        z.aims(1, 1);
        Due.is("19 not CONVINCED", z.way(-1), 1);
        // LINES keep their order: 0 1 becomes 1 2, not 2 1.
        MarginBooks two = Due.told("o3;b0 1;s1 1;");
        two.aims(0, 2);
        two.aims(1, 1);
        Due.is("19 2 1 never comes", two.way(-1), NONE);
        two.aims(1, 0);
        Due.is("19 2 0 comes", two.way(-1), 2);
    }

    private static void from() {
        // Of 4 OPINIONS, 2x: 0 0 comes of 0/2 0/2, less 0 0 itself, with which he agrees.
        MarginBooks x = Due.told("o4;b0 0;s2 0;s0 0;s1 0;s1 1;");
        Due.is("20 by 2x", x.from(0), 3);
        Due.is("20 by \"0\"", x.from(1), 15);
        Due.is("20 by x", x.from(2), 0);
        Due.is("20 by x + 1", x.from(3), 1);
        x.releases(0, 1);
        Due.is("20 RELEASED or not", x.from(0), 3);
        x.errs(0, 1);
        Due.is("20 1 0 by 2x", x.from(0), 0);
        Due.is("20 from(4)", x.from(4), BAD);
        Due.is("20 from(-1)", x.from(-1), BAD);
        MarginBooks y = Due.told("o4;b0 0;s2 0;s0 0;n2;");
        Due.is("20 by 2x with NEED 2", y.from(0), 1);
        Due.is("20 by \"0\" with NEED 2", y.from(1), 9);
        Due.is("20 four LINES", Due.told("b1 1 1 1;s0 1;").from(0), 624);
        Due.is("20 no LINES", Due.told("s1 1;").from(0), 0);
    }

    private static void saw() {
        MarginBooks x = Due.told("o3;");
        Due.is("21 saw(3, 0)", x.saw(3, 0), BAD);
        Due.is("21 saw(0, 3)", x.saw(0, 3), BAD);
        Due.is("21 saw(-1, 0)", x.saw(-1, 0), BAD);
        Due.is("21 saw(0, -1)", x.saw(0, -1), BAD);
        for (int i = 1; i <= 6; i++) {
            Due.is("21 saw(2, 1)", x.saw(2, 1), i);
        }
        Due.is("21 a seventh", x.saw(2, 1), FULL);
        Due.is("21 BAD ahead of FULL", x.saw(3, 1), BAD);
        Due.is("21 count(4)", x.count(4), 6);
        Due.is("21 a new object has 5 OPINIONS", new MarginBooks().saw(4, 4), 1);
    }

    private static void forget() {
        MarginBooks x = new MarginBooks();
        Due.is("22 forget()", x.forget(), 0);
        x.saw(0, 0);
        x.saw(0, 1);
        Due.is("22 nothing fits", x.fit(0), 0);
        Due.is("22 forget()", x.forget(), 2);
        Due.is("22 all fit", x.fit(0), 25);
        Due.is("22 count(4)", x.count(4), 0);
    }

    private static void fit() {
        MarginBooks x = new MarginBooks();
        x.saw(1, 3);
        // TURN and BENT make 3: 0 3, 1 2, 2 1, 3 0, 4 4.
        Due.is("23 how many", x.fit(0), 5);
        Due.is("23 the first", x.fit(1), 3);
        Due.is("23 NEXT", x.fit(2), 0);
        x.forget();
        x.saw(0, 3);
        Due.is("23 NEXT is not the one that is known", x.fit(2), 1);
        x.saw(2, 0);
        Due.is("23 one is left", x.fit(0), 1);
        Due.is("23 1 3", x.fit(1), 13);
        Due.is("23 NEXT of one", x.fit(2), 0);
        x.saw(2, 1);
        Due.is("23 none is left", x.fit(0), 0);
        Due.is("23 no first", x.fit(1), NONE);
        Due.is("23 no NEXT", x.fit(2), NONE);
        // Of 4 OPINIONS: 0 and 2 are said 0: BENT 0, TURN 0 or 2: 1 tells, and so does 3.
        MarginBooks y = Due.told("o4;");
        Due.is("23 16 twos", y.fit(0), 16);
        y.saw(0, 0);
        y.saw(2, 0);
        Due.is("23 two of 4", y.fit(0), 2);
        Due.is("23 the least that tells", y.fit(2), 1);
        y.saw(1, 2);
        Due.is("23 2 0", y.fit(1), 20);
        // 1 is said 0 (TURN and BENT make 4 or 0): of 0 there are 4 things, of 3 only 2.
        MarginBooks z = Due.told("o4;");
        z.saw(1, 0);
        Due.is("23 four of 4", z.fit(0), 4);
        Due.is("23 most unlike things", z.fit(2), 0);
        Due.is("23 fit(3)", x.fit(3), BAD);
        Due.is("23 fit(-1)", x.fit(-1), BAD);
    }

    private static void mark() {
        // x + 1, and 2x + 3 (of 2 it says 2), of 5 OPINIONS.
        MarginBooks x = Due.told("b2 0 1;s1 1;s2 3;");
        x.copies(0);
        x.copies(0);
        x.copies(1);
        // THE BOOK is 4 2 3, then 1 2 4, and 3 copies; 0 COPIED 2 times, 1 once.
        Due.is("24 LINE 0", x.line(0, 0), 1);
        Due.is("24 LINE 1", x.line(1, 0), 2);
        Due.is("24 LINE 2", x.line(2, 0), 4);
        int[] ofZero = {3, 4, 1, 8, 2, 6};
        int[] ofOne = {2, 4, 1, 8, 4, 5};
        for (int kind = 0; kind <= 5; kind++) {
            Due.is("24 mark(" + kind + ", 0)", x.mark(kind, 0), ofZero[kind]);
            Due.is("24 mark(" + kind + ", 1)", x.mark(kind, 1), ofOne[kind]);
        }
        x.releases(0, 1);
        Due.is("24 RELEASED", x.mark(0, 0), 3);
        Due.is("24 mark(6, 0)", x.mark(6, 0), NO);
        Due.is("24 mark(-1, 0)", x.mark(-1, 0), NO);
        Due.is("24 mark(0, 2)", x.mark(0, 2), NO);
        Due.is("24 mark(0, -1)", x.mark(0, -1), NO);
        Due.is("24 mark(highest, lowest)", x.mark(HIGHEST, LOWEST), NO);
        MarginBooks y = Due.told("b0;s0 1;s0 2;");
        y.copies(0);
        y.copies(1);
        y.copies(0);
        y.copies(1);
        Due.is("24 below 0", y.mark(2, 1), -2);
        Due.is("24 NOVICE", y.mark(4, 1), 0);
    }

    private static void images() {
        MarginBooks x = Due.told("b0 1;s1 1;s1 2;");
        Due.is("26 none was kept", x.back(0), STATE);
        x.copies(0);
        x.releases(1, 1);
        Due.is("25 keep(0)", x.keep(0), 1);
        Due.is("26 the other was not", x.back(1), STATE);
        x.releases(1, 0);
        x.copies(1);
        x.copies(1);
        x.errs(0, 4);
        Due.is("25 keep(1)", x.keep(1), 3);
        x.saw(0, 1);
        Due.is("26 back(0)", x.back(0), 1);
        Due.is("26 COPIES", x.now(0), 1);
        Due.is("26 LINE 0", x.line(0, 0), 1);
        Due.is("26 LINE 1", x.line(1, 0), 2);
        Due.is("26 RELEASED", x.now(1), 2);
        Due.is("26 how often 0", x.scribe(0, 3), 1);
        Due.is("26 how often 1", x.scribe(1, 3), 0);
        Due.is("26 what may be UNDONE", x.count(5), 2);
        Due.is("26 MARGINS stay", x.count(4), 1);
        Due.is("26 undo()", x.undo(), 1);
        Due.is("26 undone", x.now(1), 0);
        Due.is("26 undo()", x.undo(), 0);
        Due.is("26 undone too", x.line(0, 0), 0);
        Due.is("26 an IMAGE stays as it is", x.back(0), 1);
        Due.is("26 all may be UNDONE again", x.count(5), 2);
        Due.is("26 back(1)", x.back(1), 3);
        Due.is("26 LINE 0 of the other", x.line(0, 0), 4);
        Due.is("26 UNDONE of the other", x.undo(), 5);
        Due.is("26 as ahead of it", x.line(0, 0), 0);
        Due.is("25 keep(2)", x.keep(2), BAD);
        Due.is("25 keep(-1)", x.keep(-1), BAD);
        Due.is("26 back(2)", x.back(2), BAD);
        Due.is("26 back(-1)", x.back(-1), BAD);
        Due.is("26 BAD ahead of STATE", new MarginBooks().back(2), BAD);
        pastOfImages();
    }

    /** An IMAGE has a past of its own, whatever was UNDONE and done otherwise since. */
    private static void pastOfImages() {
        MarginBooks x = Due.told("b0;s1 1;");
        x.errs(0, 3);
        x.errs(0, 1);
        x.keep(0);
        x.undo();
        x.undo();
        x.errs(0, 2);
        x.errs(0, 4);
        Due.is("26 back(0)", x.back(0), 0);
        Due.is("26 LINE 0 as kept", x.line(0, 0), 1);
        x.undo();
        Due.is("26 LINE 0 ahead of it", x.line(0, 0), 3);
        x.undo();
        Due.is("26 LINE 0 at first", x.line(0, 0), 0);
        for (int i = 1; i <= 10; i++) {
            x.copies(0);
        }
        Due.is("25 keep(1) with 10 known", x.keep(1), 10);
        Due.is("26 LINE 0 with 10 known", x.line(0, 0), 0);
        x.copies(0);
        x.copies(0);
        Due.is("26 LINE 0 with older ones lost", x.line(0, 0), 2);
        Due.is("26 back(1)", x.back(1), 10);
        for (int i = 9; i >= 0; i--) {
            Due.is("26 undo()", x.undo(), i);
            Due.is("26 COPIES", x.now(0), i);
        }
        Due.is("26 none", x.undo(), STATE);
    }

    private static void count() {
        MarginBooks x = Due.told("o4;b0 1 2;s1 1;s2 2;n3;");
        x.saw(1, 1);
        x.copies(0);
        x.errs(0, 0);
        Due.type(x, "o2;;");
        int[] want = {4, 3, 2, 3, 1, 2, 4};
        for (int what = 0; what <= 6; what++) {
            Due.is("27 count(" + what + ")", x.count(what), want[what]);
        }
        Due.is("27 count(7)", x.count(7), BAD);
        Due.is("27 count(-1)", x.count(-1), BAD);
        Due.is("27 count(highest)", x.count(HIGHEST), BAD);
    }

    private static void trace() {
        MarginBooks x = Due.told("b0;s1 1;");
        long[] adds = {1, 11, 101, 1011, 10101, 100001};
        long want = 0;
        for (int kind = 0; kind <= 5; kind++) {
            x.mark(kind, 0);
            want += adds[kind];
            Due.is("28 trace() behind " + kind, x.trace(), want);
        }
        x.mark(6, 0);
        x.mark(0, 1);
        Due.is("28 what is refused asks no body", x.trace(), want);
        x.keep(0);
        x.errs(0, 1);
        x.mark(0, 0);
        x.undo();
        x.back(0);
        Due.is("28 is not UNDONE, and in no IMAGE", x.trace(), want + 1);
    }
}
