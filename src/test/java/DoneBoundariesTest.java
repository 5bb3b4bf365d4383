import java.util.ArrayList;
import java.util.List;

/** The document's section 2, promises 8 to 12, and images: what is done and undone. */
public final class DoneBoundariesTest {
    private static final int STATE = -2, NONE = -9;
    /** As many changes as to lose some of them, of all kinds. */
    private static final int CHANGES = 25;

    private DoneBoundariesTest() {
    }

    public static void main(String[] args) {
        needOfLines();
        eachLine();
        convincedOrReleased();
        mostCopies();
        error();
        boughtInAtFirst();
        known();
        whatIsUndone();
        whatIsNotUndone();
        undoneAndDoneAnew();
        target();
        images();
        whatImagesKeep();
        imagesGone();
        Due.close();
    }

    private static void needOfLines() {
        Due.by("He COPIES a book, if he is not RELEASED and DISAGREES with NEED of its LINES,"
                + " or more");
        String[] books = {"0 0 0 0", "0 0 3 0", "1 0 3 0", "1 2 0 3", "1 2 3 4"};
        int[] unlike = {0, 4, 5, 11, 15};
        for (int need = 1; need <= 4; need++) {
            for (int with = 0; with <= 4; with++) {
                // He says 0 of all.
                MarginBooks x = Due.told("b" + books[with] + ";s0 0;n" + need + ";");
                String of = " with " + with + " of NEED " + need;
                Due.is("DISAGREES" + of, x.scribe(0, 4), unlike[with]);
                Due.is("CONVINCED" + of, x.scribe(0, 5), with >= need ? 0 : 1);
                Due.is("who is CONVINCED" + of, x.now(2), with >= need ? 0 : 1);
                Due.is("ends() behind" + of, x.ends(1), with >= need ? 1 : 0);
                Due.is("copies(0)" + of, x.copies(0), with >= need ? 1 : STATE);
                Due.is("COPIES" + of, x.now(0), with >= need ? 1 : 0);
            }
        }
    }

    private static void eachLine() {
        Due.by("each LINE becomes what he says of it.");
        // 2x + 1: 0 becomes 1, 4 stays, 2 becomes 0, 3 becomes 2.
        MarginBooks x = Due.told("b0 4 2 3;s2 1;n3;");
        Due.is("copies(0)", x.copies(0), 1);
        int[] want = {1, 4, 0, 2};
        for (int l = 0; l < 4; l++) {
            Due.is("LINE " + l, x.line(l, 0), want[l]);
        }
    }

    private static void convincedOrReleased() {
        Due.by("Else he is CONVINCED (RELEASED or not) by it.");
        MarginBooks x = Due.told("b1;s0 1;s0 2;");
        Due.is("CONVINCED", x.scribe(0, 5), 1);
        Due.is("not CONVINCED", x.scribe(1, 5), 0);
        x.releases(0, 1);
        x.releases(1, 1);
        Due.is("CONVINCED, RELEASED", x.scribe(0, 5), 1);
        Due.is("not CONVINCED, RELEASED", x.scribe(1, 5), 0);
        Due.is("who is CONVINCED", x.now(2), 1);
        Due.is("copies(1), RELEASED", x.copies(1), STATE);
        x.releases(1, 0);
        Due.is("copies(1), bought in again", x.copies(1), 1);
    }

    private static void mostCopies() {
        Due.by("COPIED: THE BOOK by a SCRIBE (counted: COPIES; 999 at most).");
        // More calls than are promised: no fewer lead to 999, and the class counts no calls.
        MarginBooks x = Due.told("b0;s1 1;");
        for (int n = 1; n <= 999; n++) {
            Due.is("copies(0)", x.copies(0), n);
        }
        Due.is("a 1000th", x.copies(0), STATE);
        Due.is("COPIES", x.now(0), 999);
        Due.is("how often", x.scribe(0, 3), 999);
        Due.is("LINE 0", x.line(0, 0), 999 % 5);
        Due.is("may be UNDONE", x.count(5), 10);
        Due.is("ABBOT", x.mark(5, 0), 1000);
        Due.is("MONK", x.mark(2, 0), -998);
        Due.is("A ROUND asks no COPIES", x.ends(0), NONE);
        Due.is("undo()", x.undo(), 9);
        Due.is("the 999th again", x.copies(0), 999);
        Due.is("the 1000th again", x.copies(0), STATE);
    }

    private static void error() {
        Due.by("ERROR: a LINE of THE BOOK becomes another OPINION.");
        MarginBooks x = Due.told("o2;b0 1 1 0;s0 0;");
        Due.is("the first LINE", x.errs(0, 1), 0);
        Due.is("it says so", x.errs(0, 1), STATE);
        Due.is("the last LINE", x.errs(3, 1), 0);
        Due.is("back", x.errs(3, 0), 1);
        Due.is("to what it said at first", x.errs(3, 0), STATE);
        int[] want = {1, 1, 1, 0};
        for (int l = 0; l < 4; l++) {
            Due.is("LINE " + l, x.line(l, 0), want[l]);
        }
        Due.is("COPIES", x.now(0), 0);
        Due.is("may be UNDONE", x.count(5), 3);
    }

    private static void boughtInAtFirst() {
        Due.by("RELEASED, or bought in again: a SCRIBE (all are bought in at first).");
        MarginBooks x = Due.told("b0;" + "s1 1;".repeat(6));
        Due.is("nobody is RELEASED", x.now(1), 0);
        for (int s = 0; s < 6; s++) {
            Due.is("RELEASED " + s, x.scribe(s, 2), 0);
            Due.is("bought in at first", x.releases(s, 0), STATE);
        }
        for (int s = 5; s >= 0; s--) {
            Due.is("releases(" + s + ", 1)", x.releases(s, 1), 6 - s);
            Due.is("RELEASED " + s, x.scribe(s, 2), 1);
            Due.is("once more", x.releases(s, 1), STATE);
            Due.is("who is RELEASED", x.now(1), 63 - ((1 << s) - 1));
        }
        for (int s = 0; s < 6; s++) {
            Due.is("releases(" + s + ", 0)", x.releases(s, 0), 5 - s);
            Due.is("who is RELEASED then", x.now(1), 63 - ((2 << s) - 1));
        }
        Due.is("all are bought in again", x.releases(5, 0), STATE);
    }

    /** The i-th of many changes, each kind of them in its turn. */
    private static void change(MarginBooks x, int i) {
        long done;
        switch (i % 5) {
            case 0 -> done = x.copies(0);
            case 1 -> done = x.errs(i % 2, (x.line(i % 2, 0) + 1) % 5);
            case 2 -> done = x.releases(1, 1);
            case 3 -> done = x.copies(2);
            default -> done = x.releases(1, 0);
        }
        Due.holds("change " + i + " is done", done >= 0);
    }

    private static MarginBooks changed(int times) {
        MarginBooks x = Due.told("b0 3;s1 1;s1 2;s1 3;");
        for (int i = 0; i < times; i++) {
            change(x, i);
        }
        return x;
    }

    private static List<String> without(List<String> seen, String what) {
        List<String> rest = new ArrayList<>(seen);
        rest.removeIf(s -> s.startsWith(what));
        return rest;
    }

    private static void known() {
        Due.by("(10 are known, older ones are lost): all is as ahead of it.");
        List<List<String>> ahead = new ArrayList<>();
        for (int n = 0; n <= CHANGES; n++) {
            ahead.add(without(Look.now(changed(n)), "count 5"));
        }
        for (int n = 0; n <= CHANGES; n++) {
            MarginBooks x = changed(n);
            int may = Math.min(n, 10);
            Due.is("known of " + n, x.count(5), may);
            for (int i = 1; i <= may; i++) {
                Due.is("undo() of " + n, x.undo(), may - i);
                Due.is("known then", x.count(5), may - i);
                Due.holds("as ahead of change " + (n - i) + " of " + n,
                        without(Look.now(x), "count 5").equals(ahead.get(n - i)));
            }
            Due.is("one more of " + n, x.undo(), STATE);
            Due.is("none is known", x.count(5), 0);
            Due.holds("what is lost stays done, of " + n,
                    without(Look.now(x), "count 5").equals(ahead.get(n - may)));
        }
    }

    private static void whatIsUndone() {
        Due.by("UNDONE: the latest COPIED, ERROR, RELEASED, bought in");
        for (int n = 0; n < 5; n++) {
            MarginBooks x = changed(n + 1);
            Due.is("undo() of kind " + n, x.undo(), n);
            Look.changesNothing("kind " + n + " that is UNDONE", x, changed(n));
        }
    }

    private static void whatIsNotUndone() {
        Due.by("TARGET: a LINE of it becomes an OPINION: what it was. (Is not UNDONE.) BAD.");
        MarginBooks x = changed(1);
        Due.is("aims(1, 4)", x.aims(1, 4), 3);
        Due.is("aims(1, 4) again is not refused", x.aims(1, 4), 4);
        Due.is("aims(0, 2)", x.aims(0, 2), 0);
        Due.is("may be UNDONE", x.count(5), 1);
        Due.is("undo()", x.undo(), 0);
        Due.is("TARGET 0", x.line(0, 1), 2);
        Due.is("TARGET 1", x.line(1, 1), 4);
        Due.by("UNDONE: how many more may be. STATE: none.");
        x.saw(1, 1);
        x.mark(5, 0);
        x.keep(0);
        x.type('o');
        x.clear();
        x.forget();
        x.releases(0, 0);
        x.errs(0, 0);
        x.copies(6);
        Due.is("nothing of that can be UNDONE", x.count(5), 0);
        Due.is("none", x.undo(), STATE);
    }

    private static void undoneAndDoneAnew() {
        Due.by("UNDONE: the latest COPIED, ERROR, RELEASED, bought in");
        MarginBooks x = Due.told("b0;s1 1;");
        x.errs(0, 1);
        x.errs(0, 2);
        Due.is("undo()", x.undo(), 1);
        x.errs(0, 4);
        Due.is("known", x.count(5), 2);
        Due.is("undo() of the new one", x.undo(), 1);
        Due.is("LINE 0", x.line(0, 0), 1);
        Due.is("undo() of the first", x.undo(), 0);
        Due.is("LINE 0 at first", x.line(0, 0), 0);
    }

    private static void target() {
        Due.by("TARGET (told: a book of as many LINES as THE BOOK; THE BOOK as told at first)");
        MarginBooks x = Due.told("o4;b1 3;s1 1;");
        x.errs(0, 0);
        x.copies(0);
        Due.is("TARGET 0", x.line(0, 1), 1);
        Due.is("TARGET 1", x.line(1, 1), 3);
        Due.is("THE BOOK 0", x.line(0, 0), 1);
        Due.is("THE BOOK 1", x.line(1, 0), 0);
        Due.is("aims() at another LINE's", x.aims(0, 3), 1);
        Due.is("THE BOOK stays", x.line(0, 0), 1);
        Due.is("TARGET's other LINE stays", x.line(1, 1), 3);
    }

    private static void images() {
        Due.by("IMAGES 0, 1 keep NOW");
        for (int image = 0; image <= 1; image++) {
            int it = image;
            int other = 1 - image;
            // Of 13 changes 5 are COPIES, and so is the one behind them.
            MarginBooks x = changed(13);
            Due.is("none was kept", x.back(it), STATE);
            Due.is("keep(" + it + ")", x.keep(it), 5);
            Due.is("the other was not", x.back(other), STATE);
            change(x, 13);
            Due.is("keep(" + other + ")", x.keep(other), 6);
            Due.is("back(" + it + ")", x.back(it), 5);
            Due.is("back(" + other + ")", x.back(other), 6);
            Due.is("back(" + it + ") again", x.back(it), 5);
            Due.holds("all as kept", Look.now(x).equals(Look.now(changed(13))));
            // Kept once more: what was in it is gone.
            Due.is("keep(" + other + ") anew", x.keep(other), 5);
            change(x, 13);
            Due.is("back(" + other + ") then", x.back(other), 5);
        }
        Due.is("keep(0) of a new object", new MarginBooks().keep(0), 0);
        Look.unchanged("back(0) to what is NOW", DoneBoundariesTest::kept, x -> x.back(0), 5);
        MarginBooks again = kept();
        again.keep(0);
        Look.changesNothing("keep(0) of the same", again, kept());
    }

    private static MarginBooks kept() {
        MarginBooks x = changed(13);
        x.keep(0);
        return x;
    }

    private static void whatImagesKeep() {
        Due.by("(THE BOOK, COPIES, how often each COPIED, who is RELEASED, what may be UNDONE);"
                + " nothing else.");
        for (int n = 0; n <= 12; n++) {
            MarginBooks x = changed(n);
            x.keep(1);
            for (int i = 0; i < Math.min(n, 3); i++) {
                x.undo();
            }
            for (int i = 0; i < 4; i++) {
                x.errs(0, (x.line(0, 0) + 1) % 5);
            }
            x.back(1);
            Due.holds("NOW as kept behind " + n, Look.now(x).equals(Look.now(changed(n))));
            MarginBooks was = changed(n);
            for (int i = 0; i < Math.min(n, 10); i++) {
                Due.is("undo() behind back(1)", x.undo(), was.undo());
                Due.holds("UNDONE as kept behind " + n, Look.now(x).equals(Look.now(was)));
            }
            Due.is("none behind back(1)", x.undo(), STATE);
        }
        MarginBooks x = kept();
        x.aims(0, 4);
        x.saw(2, 3);
        x.type('b');
        x.mark(1, 0);
        x.back(0);
        Due.is("TARGET stays", x.line(0, 1), 4);
        Due.is("MARGINS stay", x.count(4), 1);
        Due.is("THE TEXT stays", x.count(6), 1);
        Due.is("THE TRACE stays", x.trace(), 11);
    }

    private static void imagesGone() {
        Due.by("IMAGES are gone.");
        MarginBooks x = kept();
        x.keep(1);
        x.type('x');
        Due.is("a text at fault", x.house(), -10);
        Due.is("image 0 stays", x.back(0), 5);
        Due.is("image 1 stays", x.back(1), 5);
        x.clear();
        Due.is("house() of nothing", x.house(), 0);
        Due.is("image 0 is gone", x.back(0), STATE);
        Due.is("image 1 is gone", x.back(1), STATE);
        Due.is("keep(1) anew", x.keep(1), 0);
        Due.is("image 0 is still gone", x.back(0), STATE);
        Due.is("image 1 is there", x.back(1), 0);
        Due.is("nobody in it", x.count(2), 0);
    }
}
