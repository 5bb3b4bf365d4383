import java.math.BigInteger;
import java.util.ArrayDeque;
import java.util.ArrayList;
import java.util.Arrays;
import java.util.HashMap;
import java.util.HashSet;
import java.util.List;
import java.util.Map;
import java.util.Set;
import java.util.TreeMap;
import java.util.TreeSet;
import java.util.regex.Matcher;
import java.util.regex.Pattern;

/**
 * The document once more, as plainly as can be and by other means than the class: books are
 * lists, nothing is worked out ahead, whatever is asked is looked for among all there is.
 */
final class Model {
    private static final int BAD = -1, STATE = -2, FULL = -3, NONE = -9, NO = -1000000;
    private static final Pattern TOKEN = Pattern.compile(" *(?:([a-z]+)|([0-9]+)|(;))");

    private StringBuilder text = new StringBuilder();
    private int opinions = 5;
    private int need = 1;
    private List<int[]> scribes = new ArrayList<>();
    private List<Integer> book = List.of();
    private List<Integer> target = List.of();
    private int copies;
    private Map<Integer, Integer> times = new TreeMap<>();
    private Set<Integer> released = new TreeSet<>();
    private List<Past> past = new ArrayList<>();
    private final Map<Integer, Past> images = new HashMap<>();
    private final List<int[]> margins = new ArrayList<>();
    private long trace;

    private record Past(List<Integer> book, int copies, Map<Integer, Integer> times,
            Set<Integer> released, List<Past> past) {
    }

    private Past snapshot() {
        return new Past(book, copies, new TreeMap<>(times), new TreeSet<>(released),
                new ArrayList<>(past));
    }

    private void restore(Past p) {
        book = p.book();
        copies = p.copies();
        times = new TreeMap<>(p.times());
        released = new TreeSet<>(p.released());
        past = new ArrayList<>(p.past());
    }

    private void remember() {
        past.add(snapshot());
        if (past.size() > 10) {
            past.remove(0);
        }
    }

    int type(int c) {
        if (c < 0 || c > 255) {
            return BAD;
        }
        if (text.length() == 120) {
            return FULL;
        }
        text.append((char) c);
        return text.length();
    }

    int clear() {
        int had = text.length();
        text = new StringBuilder();
        return had;
    }

    /** One token and where it begins; "" is the end, "?" what can be none. */
    private record Token(String word, int place) {
        boolean numberUpTo(int least, int most) {
            return word.matches("[0-9]+") && Integer.parseInt(word) >= least
                    && Integer.parseInt(word) <= most;
        }
    }

    private List<Token> tokens() {
        List<Token> all = new ArrayList<>();
        Matcher m = TOKEN.matcher(text);
        int at = 0;
        while (m.find(at) && m.start() == at) {
            String word = m.group().replace(" ", "");
            boolean wrong = m.group(2) != null && !word.matches("0|[1-9][0-9]?");
            all.add(new Token(wrong ? "?" : word, m.end() - word.length()));
            at = m.end();
        }
        while (at < text.length() && text.charAt(at) == ' ') {
            at++;
        }
        all.add(new Token(at == text.length() ? "" : "?", at));
        return all;
    }

    int house() {
        List<Token> all = tokens();
        int newOpinions = 5;
        int newNeed = 1;
        List<int[]> newScribes = new ArrayList<>();
        List<Integer> newBook = new ArrayList<>();
        boolean needTold = false;
        int items = 0;
        int i = 0;
        while (!all.get(i).word().isEmpty()) {
            Token head = all.get(i++);
            int fault = -10 - head.place();
            List<Integer> numbers = new ArrayList<>();
            int least;
            int most;
            int low = 0;
            int high;
            switch (head.word()) {
                case "o" -> {
                    if (items > 0) {
                        return fault;
                    }
                    least = 1;
                    most = 1;
                    low = 2;
                    high = 5;
                }
                case "b" -> {
                    if (!newBook.isEmpty()) {
                        return fault;
                    }
                    least = 1;
                    most = 4;
                    high = newOpinions - 1;
                }
                case "s" -> {
                    if (newScribes.size() == 6) {
                        return fault;
                    }
                    least = 2;
                    most = 2;
                    high = 6;
                }
                case "n" -> {
                    if (needTold) {
                        return fault;
                    }
                    least = 1;
                    most = 1;
                    low = 1;
                    high = 4;
                }
                default -> {
                    return fault;
                }
            }
            while (numbers.size() < most && all.get(i).numberUpTo(low, high)) {
                numbers.add(Integer.parseInt(all.get(i++).word()));
            }
            if (numbers.size() < least || !all.get(i).word().equals(";")) {
                return -10 - all.get(i).place();
            }
            i++;
            items++;
            switch (head.word()) {
                case "o" -> newOpinions = numbers.get(0);
                case "b" -> newBook = numbers;
                case "s" -> newScribes.add(new int[] {numbers.get(0), numbers.get(1)});
                default -> {
                    newNeed = numbers.get(0);
                    needTold = true;
                }
            }
        }
        opinions = newOpinions;
        need = newNeed;
        scribes = newScribes;
        book = List.copyOf(newBook);
        target = book;
        copies = 0;
        times.clear();
        released.clear();
        past.clear();
        images.clear();
        margins.clear();
        clear();
        return items;
    }

    private boolean isScribe(int s) {
        return s >= 0 && s < scribes.size();
    }

    private boolean isLine(int l) {
        return l >= 0 && l < book.size();
    }

    private boolean isOpinion(int x) {
        return x >= 0 && x < opinions;
    }

    private int said(int s, int x) {
        return (scribes.get(s)[0] * x + scribes.get(s)[1]) % opinions;
    }

    private List<Integer> made(int s, List<Integer> of) {
        return of.stream().map(x -> said(s, x)).toList();
    }

    private int disagreements(int s, List<Integer> with) {
        return (int) with.stream().filter(x -> said(s, x) != x).count();
    }

    private boolean convinced(int s, List<Integer> by) {
        return disagreements(s, by) < need;
    }

    private List<List<Integer>> allBooks() {
        List<List<Integer>> all = new ArrayList<>();
        all.add(List.of());
        for (int l = 0; l < book.size(); l++) {
            List<List<Integer>> longer = new ArrayList<>();
            for (List<Integer> b : all) {
                for (int x = 0; x < opinions; x++) {
                    List<Integer> c = new ArrayList<>(b);
                    c.add(x);
                    longer.add(c);
                }
            }
            all = longer;
        }
        return all;
    }

    private static List<Integer> with(List<Integer> of, int l, int x) {
        List<Integer> changed = new ArrayList<>(of);
        changed.set(l, x);
        return List.copyOf(changed);
    }

    int line(int l, int what) {
        if (!isLine(l) || what < 0 || what > 1) {
            return BAD;
        }
        return (what == 0 ? book : target).get(l);
    }

    int scribe(int s, int what) {
        if (!isScribe(s) || what < 0 || what > 6) {
            return BAD;
        }
        int bits = 0;
        for (int l = 0; l < book.size(); l++) {
            bits += said(s, book.get(l)) == book.get(l) ? 0 : (int) Math.pow(2, l);
        }
        return switch (what) {
            case 0 -> scribes.get(s)[0];
            case 1 -> scribes.get(s)[1];
            case 2 -> released.contains(s) ? 1 : 0;
            case 3 -> times.getOrDefault(s, 0);
            case 4 -> bits;
            case 5 -> convinced(s, book) ? 1 : 0;
            default -> comes(s);
        };
    }

    private int comes(int s) {
        Set<List<Integer>> seen = new HashSet<>();
        List<Integer> b = made(s, book);
        for (int n = 1; seen.add(b); n++) {
            if (b.equals(book)) {
                return n;
            }
            b = made(s, b);
        }
        return NONE;
    }

    int says(int s, int x) {
        return isScribe(s) && isOpinion(x) ? said(s, x) : BAD;
    }

    int copies(int s) {
        if (!isScribe(s)) {
            return BAD;
        }
        if (released.contains(s) || convinced(s, book) || copies == 999) {
            return STATE;
        }
        remember();
        book = made(s, book);
        times.merge(s, 1, Integer::sum);
        return ++copies;
    }

    int errs(int l, int x) {
        if (!isLine(l) || !isOpinion(x)) {
            return BAD;
        }
        int was = book.get(l);
        if (was == x) {
            return STATE;
        }
        remember();
        book = with(book, l, x);
        return was;
    }

    int releases(int s, int is) {
        if (!isScribe(s) || is != 0 && is != 1) {
            return BAD;
        }
        if (released.contains(s) == (is == 1)) {
            return STATE;
        }
        remember();
        if (is == 1) {
            released.add(s);
        } else {
            released.remove(s);
        }
        return released.size();
    }

    int aims(int l, int x) {
        if (!isLine(l) || !isOpinion(x)) {
            return BAD;
        }
        int was = target.get(l);
        target = with(target, l, x);
        return was;
    }

    int undo() {
        if (past.isEmpty()) {
            return STATE;
        }
        Past latest = past.remove(past.size() - 1);
        List<Past> older = past;
        restore(latest);
        past = older;
        return past.size();
    }

    private List<List<Integer>> before(int s) {
        return allBooks().stream()
                .filter(b -> !convinced(s, b) && made(s, b).equals(book)).toList();
    }

    int now(int what) {
        int bits = 0;
        for (int s = 0; s < scribes.size(); s++) {
            int bit = 1 << s;
            int it = s;
            bits += switch (what) {
                case 1 -> released.contains(s) ? bit : 0;
                case 2 -> convinced(s, book) ? bit : 0;
                case 3 -> before(s).isEmpty() ? 0 : bit;
                case 5 -> margins.stream().allMatch(m -> said(it, m[0]) == m[1]) ? bit : 0;
                default -> 0;
            };
        }
        if (what == 4) {
            return same();
        }
        return what < 0 || what > 5 ? BAD : what == 0 ? copies : bits;
    }

    private int same() {
        List<List<Integer>> all = new ArrayList<>();
        for (int s = 0; s < scribes.size(); s++) {
            all.addAll(before(s));
        }
        int bits = 0;
        for (int l = 0; l < book.size() && !all.isEmpty(); l++) {
            int it = l;
            bits += all.stream().map(b -> b.get(it)).distinct().count() == 1 ? 1 << l : 0;
        }
        return bits;
    }

    /** All books of a round, the first included; the last number is who ends it, or NONE. */
    private record Round(List<List<Integer>> books, int ender, boolean endless) {
    }

    private Round round(List<Integer> first, Set<Integer> out) {
        List<Integer> in = new ArrayList<>();
        for (int s = 0; s < scribes.size(); s++) {
            if (!out.contains(s)) {
                in.add(s);
            }
        }
        List<List<Integer>> books = new ArrayList<>();
        books.add(first);
        if (in.isEmpty()) {
            return new Round(books, NONE, false);
        }
        Set<List<Object>> seen = new HashSet<>();
        boolean again = false;
        // Goes on for 100 copies behind the first that came again, for those who ask so far.
        for (int n = 0, more = 0; more < 100; n++) {
            int s = in.get(n % in.size());
            List<Integer> b = books.get(n);
            if (convinced(s, b)) {
                return new Round(books, s, false);
            }
            again |= !seen.add(List.of(s, b));
            more += again ? 1 : 0;
            books.add(made(s, b));
        }
        return new Round(books, NONE, true);
    }

    int behind(int n, int l) {
        if (n < 0 || n > 99 || !isLine(l)) {
            return BAD;
        }
        List<List<Integer>> books = round(book, released).books();
        return books.get(Math.min(n, books.size() - 1)).get(l);
    }

    int ends(int what) {
        if (what != 0 && what != 1) {
            return BAD;
        }
        Round r = round(book, released);
        return r.endless() ? NONE : what == 0 ? r.ender() : r.books().size() - 1;
    }

    int lasts(int what) {
        if (what != 0 && what != 1) {
            return BAD;
        }
        if (book.isEmpty() || released.size() == scribes.size()) {
            return NONE;
        }
        TreeMap<Integer, Integer> leastOf = new TreeMap<>();
        List<List<Integer>> all = allBooks();
        for (int i = 0; i < all.size(); i++) {
            Round r = round(all.get(i), released);
            if (r.endless()) {
                return NONE;
            }
            leastOf.putIfAbsent(r.books().size() - 1, i);
        }
        return what == 0 ? leastOf.lastEntry().getValue() : leastOf.lastKey();
    }

    int buy(int n) {
        if (n < 1 || n > 99) {
            return BAD;
        }
        List<Integer> masks = new ArrayList<>();
        for (int bits = 0; bits < 64; bits++) {
            masks.add(bits);
        }
        masks.sort((a, b) -> Integer.bitCount(a) != Integer.bitCount(b)
                ? Integer.bitCount(a) - Integer.bitCount(b) : a - b);
        for (int bits : masks) {
            Set<Integer> out = new TreeSet<>(released);
            boolean so = true;
            for (int s = 0; s < 6; s++) {
                so &= (bits >> s) % 2 == 0 || out.remove(s);
            }
            if (so && round(book, out).books().size() > n) {
                return bits;
            }
        }
        return NONE;
    }

    int odds(int x, int n, int what) {
        if (x < 0 || x > 10 || n < 0 || n > 9 || what < 0 || what > 1) {
            return BAD;
        }
        BigInteger upper = BigInteger.ONE;
        BigInteger lower = BigInteger.ONE;
        int there = round(book, released).books().size() - 1;
        for (int i = 1; i <= n; i++) {
            upper = upper.multiply(BigInteger.valueOf(i <= there ? 10 - x : 0));
            lower = lower.multiply(BigInteger.TEN);
        }
        BigInteger common = upper.gcd(lower);
        return (what == 0 ? upper : lower).divide(common).intValueExact();
    }

    /** Books by how far they are from the target, worked out from there backwards. */
    int way(int i) {
        if (i < -1) {
            return BAD;
        }
        Map<List<Integer>, Integer> far = new HashMap<>();
        ArrayDeque<List<Integer>> queue = new ArrayDeque<>();
        far.put(target, 0);
        queue.add(target);
        List<List<Integer>> all = allBooks();
        while (!queue.isEmpty() && !far.containsKey(book)) {
            List<Integer> to = queue.remove();
            for (List<Integer> b : all) {
                for (int s = 0; s < scribes.size() && !far.containsKey(b); s++) {
                    if (leads(s, b, to)) {
                        far.put(b, far.get(to) + 1);
                        queue.add(b);
                    }
                }
            }
        }
        if (!far.containsKey(book)) {
            return NONE;
        }
        int left = far.get(book);
        if (i == -1) {
            return left;
        }
        List<Integer> b = book;
        for (int n = 0; left > 0; n++, left--) {
            int s = 0;
            while (convinced(s, b) || released.contains(s)
                    || far.getOrDefault(made(s, b), -1) != left - 1) {
                s++;
            }
            if (n == i) {
                return s;
            }
            b = made(s, b);
        }
        return NONE;
    }

    private boolean leads(int s, List<Integer> b, List<Integer> to) {
        return !released.contains(s) && made(s, b).equals(to) && !convinced(s, b);
    }

    int from(int s) {
        return isScribe(s) ? before(s).size() : BAD;
    }

    int saw(int x, int y) {
        if (!isOpinion(x) || !isOpinion(y)) {
            return BAD;
        }
        if (margins.size() == 6) {
            return FULL;
        }
        margins.add(new int[] {x, y});
        return margins.size();
    }

    int forget() {
        int had = margins.size();
        margins.clear();
        return had;
    }

    int fit(int what) {
        if (what < 0 || what > 2) {
            return BAD;
        }
        List<int[]> fits = new ArrayList<>();
        for (int i = 0; i < opinions * opinions; i++) {
            int[] law = {i / opinions, i % opinions};
            if (margins.stream().allMatch(m -> (law[0] * m[0] + law[1]) % opinions == m[1])) {
                fits.add(law);
            }
        }
        if (what == 0) {
            return fits.size();
        }
        if (fits.isEmpty()) {
            return NONE;
        }
        if (what == 1) {
            return fits.get(0)[0] * 10 + fits.get(0)[1];
        }
        long[] unlike = new long[opinions];
        for (int x = 0; x < opinions; x++) {
            int it = x;
            unlike[x] = fits.stream().map(f -> (f[0] * it + f[1]) % opinions).distinct().count();
        }
        long most = Arrays.stream(unlike).max().getAsLong();
        int x = 0;
        while (unlike[x] != most) {
            x++;
        }
        return x;
    }

    int mark(int kind, int s) {
        if (kind < 0 || kind > 5 || !isScribe(s)) {
            return NO;
        }
        int base = disagreements(s, book);
        int turn = scribes.get(s)[0];
        int bent = scribes.get(s)[1];
        int often = times.getOrDefault(s, 0);
        trace += new long[] {1, 11, 101, 1011, 10101, 100001}[kind];
        return new int[] {base, base + turn, base - often, (base + turn) * 2,
            base - often + bent, base + copies}[kind];
    }

    int keep(int image) {
        if (image != 0 && image != 1) {
            return BAD;
        }
        images.put(image, snapshot());
        return copies;
    }

    int back(int image) {
        if (image != 0 && image != 1) {
            return BAD;
        }
        if (!images.containsKey(image)) {
            return STATE;
        }
        restore(images.get(image));
        return copies;
    }

    int count(int what) {
        int[] all = {opinions, book.size(), scribes.size(), need, margins.size(), past.size(),
            text.length()};
        return what < 0 || what > 6 ? BAD : all[what];
    }

    long trace() {
        return trace;
    }
}
