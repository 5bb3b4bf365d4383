import java.util.ArrayList;
import java.util.List;
import java.util.function.Supplier;
import java.util.function.ToLongFunction;

/** All that can be seen of an object, and so whether a call changed anything. */
final class Look {
    private final MarginBooks x;
    private final List<String> seen = new ArrayList<>();

    private Look(MarginBooks x) {
        this.x = x;
    }

    /** What may be UNDONE, images and the text are used up by being looked at. */
    static List<String> through(MarginBooks x) {
        Look look = new Look(x);
        look.house();
        look.asked();
        look.past("now");
        for (int image = 0; image <= 1; image++) {
            look.see("back " + image, x.back(image));
            look.past("image " + image);
        }
        look.text();
        return look.seen;
    }

    /** THE BOOK, COPIES, how often each COPIED, who is RELEASED, what may be UNDONE. */
    static List<String> now(MarginBooks x) {
        Look look = new Look(x);
        look.standing("now");
        look.see("count 5", x.count(5));
        return look.seen;
    }

    /** The call's answer is as due, and all is as if it had not been made. */
    static void unchanged(String call, Supplier<MarginBooks> made,
            ToLongFunction<MarginBooks> asked, long want) {
        MarginBooks it = made.get();
        Due.is(call, asked.applyAsLong(it), want);
        changesNothing(call, it, made.get());
    }

    static void changesNothing(String call, MarginBooks behind, MarginBooks without) {
        List<String> is = through(behind);
        List<String> was = through(without);
        boolean alike = is.equals(was);
        Due.holds("nothing changes at " + call + (alike ? "" : ": " + is + ", not " + was), alike);
    }

    private void see(String what, long answer) {
        seen.add(what + ": " + answer);
    }

    private void house() {
        for (int what = 0; what <= 6; what++) {
            see("count " + what, x.count(what));
        }
        for (int s = 0; s < x.count(2); s++) {
            for (int what = 0; what <= 6; what++) {
                see("scribe " + s + " " + what, x.scribe(s, what));
            }
            see("says " + s, x.says(s, 1));
            see("from " + s, x.from(s));
        }
        for (int l = 0; l < x.count(1); l++) {
            see("target " + l, x.line(l, 1));
            see("behind 0 " + l, x.behind(0, l));
            see("behind 3 " + l, x.behind(3, l));
        }
    }

    private void asked() {
        for (int what = 0; what <= 5; what++) {
            see("now " + what, x.now(what));
        }
        for (int what = 0; what <= 1; what++) {
            see("ends " + what, x.ends(what));
            see("lasts " + what, x.lasts(what));
            see("odds " + what, x.odds(3, 2, what));
            see("way " + what, x.way(what - 1));
        }
        for (int what = 0; what <= 2; what++) {
            see("fit " + what, x.fit(what));
        }
        see("buy", x.buy(9));
        see("trace", x.trace());
        see("mark", x.mark(5, 0));
        see("trace", x.trace());
    }

    private void past(String whose) {
        standing(whose);
        // One more than can be known, so that the last one is refused.
        for (int i = 0; i <= 10; i++) {
            see(whose + " undo", x.undo());
            standing(whose);
        }
    }

    private void standing(String whose) {
        for (int l = 0; l < x.count(1); l++) {
            see(whose + " line " + l, x.line(l, 0));
        }
        for (int s = 0; s < x.count(2); s++) {
            see(whose + " copied " + s, x.scribe(s, 3));
        }
        see(whose + " copies", x.now(0));
        see(whose + " released", x.now(1));
    }

    private void text() {
        see("house", x.house());
        see("opinions of the text", x.count(0));
        see("lines of the text", x.count(1));
        see("scribes of the text", x.count(2));
        see("bytes then", x.clear());
        see("seen margins", x.forget());
    }
}
