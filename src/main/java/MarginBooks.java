/**
 * A house of scribes who hand on a book only if they think it false.
 *
 * <p>A book is held as one number: its lines are the figures, to the base of how many opinions
 * there are, and line 0 is the highest. So all books are 0 .. (how many there are, less 1), and
 * their order is the one that the document asks for.
 */
public final class MarginBooks {
    public static final int BAD = -1, STATE = -2, FULL = -3, NONE = -9;
    public static final int NO = -1000000;

    private static final int OPINIONS_LEAST = 2, OPINIONS_MOST = 5;
    private static final int LINES_MOST = 4, SCRIBES_MOST = 6, NEED_MOST = 4, LAW_MOST = 6;
    private static final int BOOKS_MOST = 625;
    private static final int COPIES_MOST = 999, BEHIND_MOST = 99, BUY_MOST = 99;
    private static final int ODDS_WHOLE = 10, ODDS_COPIES_MOST = 9;

    private House house = new House();
    private House draft = new House();
    private final Reader reader = new Reader();
    private final Laws laws = new Laws();
    private final Standing standing = new Standing();
    private final Standing imageZero = new Standing();
    private final Standing imageOne = new Standing();
    private boolean keptZero;
    private boolean keptOne;
    private int target;
    private final Rounds rounds = new Rounds(laws);
    private final Ways ways = new Ways(laws);
    private final Margins margins = new Margins();
    private final Marks marks = new Marks();

    public MarginBooks() {
    }

    // ---- the house

    public int type(int c) {
        if (c < 0 || c > 255) {
            return BAD;
        }
        return reader.add(c) ? reader.length : FULL;
    }

    public int clear() {
        return reader.empty();
    }

    public int house() {
        int items = reader.read(draft);
        if (items < 0) {
            return items;
        }
        House told = draft;
        draft = house;
        house = told;
        reader.empty();
        laws.learn(house);
        standing.begin(house.told);
        target = house.told;
        margins.empty();
        keptZero = false;
        keptOne = false;
        return items;
    }

    public int line(int l, int what) {
        if (!house.hasLine(l) || what < 0 || what > 1) {
            return BAD;
        }
        return house.lineOf(what == 0 ? standing.book() : target, l);
    }

    public int scribe(int s, int what) {
        if (!house.hasScribe(s)) {
            return BAD;
        }
        int book = standing.book();
        switch (what) {
            case 0:
                return house.turnOf(s);
            case 1:
                return house.bentOf(s);
            case 2:
                return standing.isReleased(s) ? 1 : 0;
            case 3:
                return standing.timesOf(s);
            case 4:
                return house.unlikeLines(s, book);
            case 5:
                return house.isConvinced(s, book) ? 1 : 0;
            case 6:
                return house.comesRound(s, book);
            default:
                return BAD;
        }
    }

    public int says(int s, int x) {
        return house.hasScribe(s) && house.hasOpinion(x) ? house.saidBy(s, x) : BAD;
    }

    // ---- what is done

    public int copies(int s) {
        if (!house.hasScribe(s)) {
            return BAD;
        }
        int book = standing.book();
        if (standing.isReleased(s) || house.isConvinced(s, book)
                || standing.copiesNow() >= COPIES_MOST) {
            return STATE;
        }
        standing.remember();
        standing.copied(s, house.becomes(s, book));
        return standing.copiesNow();
    }

    public int errs(int l, int x) {
        if (!house.hasLine(l) || !house.hasOpinion(x)) {
            return BAD;
        }
        int book = standing.book();
        int said = house.lineOf(book, l);
        if (said == x) {
            return STATE;
        }
        standing.remember();
        standing.setBook(house.withLine(book, l, x));
        return said;
    }

    public int releases(int s, int is) {
        if (!house.hasScribe(s) || is < 0 || is > 1) {
            return BAD;
        }
        if (standing.isReleased(s) == (is == 1)) {
            return STATE;
        }
        standing.remember();
        standing.turnReleased(s);
        return Integer.bitCount(standing.released());
    }

    public int aims(int l, int x) {
        if (!house.hasLine(l) || !house.hasOpinion(x)) {
            return BAD;
        }
        int was = house.lineOf(target, l);
        target = house.withLine(target, l, x);
        return was;
    }

    public int undo() {
        return standing.takeBack() ? standing.known : STATE;
    }

    public int now(int what) {
        switch (what) {
            case 0:
                return standing.copiesNow();
            case 1:
                return standing.released();
            case 2:
                return convinced();
            case 3:
                return ways.lastCopiers(standing.book());
            case 4:
                return ways.sameLines(house, standing.book());
            case 5:
                return margins.fittingScribes(house);
            default:
                return BAD;
        }
    }

    private int convinced() {
        int bits = 0;
        for (int s = 0; s < house.scribes; s++) {
            if (house.isConvinced(s, standing.book())) {
                bits |= 1 << s;
            }
        }
        return bits;
    }

    /** SCRIBES (bits) who are not RELEASED. */
    private int bought() {
        return house.allScribes() & ~standing.released();
    }

    // ---- rounds

    public int behind(int n, int l) {
        if (n < 0 || n > BEHIND_MOST || !house.hasLine(l)) {
            return BAD;
        }
        rounds.run(standing.book(), bought(), n);
        return house.lineOf(rounds.book, l);
    }

    public int ends(int what) {
        if (what < 0 || what > 1) {
            return BAD;
        }
        rounds.runToEnd(standing.book(), bought());
        if (what == 0) {
            return rounds.ender;
        }
        return rounds.goesOn ? NONE : rounds.copies;
    }

    public int lasts(int what) {
        if (what < 0 || what > 1) {
            return BAD;
        }
        if (house.lines == 0 || bought() == 0) {
            return NONE;
        }
        int longest = rounds.longestBook(bought());
        if (longest == NONE || what == 0) {
            return longest;
        }
        rounds.runToEnd(longest, bought());
        return rounds.copies;
    }

    public int buy(int n) {
        if (n < 1 || n > BUY_MOST) {
            return BAD;
        }
        return rounds.fewestToBuy(standing.book(), bought(), standing.released(), n);
    }

    public int odds(int x, int n, int what) {
        if (x < 0 || x > ODDS_WHOLE || n < 0 || n > ODDS_COPIES_MOST || what < 0 || what > 1) {
            return BAD;
        }
        if (!rounds.reaches(standing.book(), bought(), n)) {
            return what == 0 ? 0 : 1;
        }
        int goesOn = ODDS_WHOLE - x;
        // In least terms already when one COPY's fraction is, so no large number is divided.
        int common = commonDivisor(ODDS_WHOLE, goesOn);
        return common < 1 ? BAD : power((what == 0 ? goesOn : ODDS_WHOLE) / common, n);
    }

    private static int commonDivisor(int a, int b) {
        int common = a;
        int rest = b;
        for (int i = 0; i <= ODDS_WHOLE && rest != 0; i++) {
            int left = common % rest;
            common = rest;
            rest = left;
        }
        return common;
    }

    private static int power(int base, int n) {
        int product = 1;
        for (int i = 0; i < n; i++) {
            product *= base;
        }
        return product;
    }

    // ---- ways

    public int way(int i) {
        if (i < -1) {
            return BAD;
        }
        ways.search(standing.book(), bought(), target);
        return i == -1 ? ways.fewestCopies(target) : ways.scribeOfCopy(target, i);
    }

    public int from(int s) {
        return house.hasScribe(s) ? ways.countBefore(s, standing.book()) : BAD;
    }

    // ---- margins

    public int saw(int x, int y) {
        if (!house.hasOpinion(x) || !house.hasOpinion(y)) {
            return BAD;
        }
        return margins.add(x, y) ? margins.size : FULL;
    }

    public int forget() {
        return margins.empty();
    }

    public int fit(int what) {
        switch (what) {
            case 0:
                return margins.countFits(house.opinions);
            case 1:
                return margins.firstFit(house.opinions);
            case 2:
                return margins.mostTelling(house.opinions);
            default:
                return BAD;
        }
    }

    // ---- kinds, images

    public int mark(int kind, int s) {
        if (!Marks.isKind(kind) || !house.hasScribe(s)) {
            return NO;
        }
        marks.unlike = Integer.bitCount(house.unlikeLines(s, standing.book()));
        marks.turn = house.turnOf(s);
        marks.bent = house.bentOf(s);
        marks.times = standing.timesOf(s);
        marks.copies = standing.copiesNow();
        return marks.ask(kind, 0);
    }

    public int keep(int image) {
        if (image == 0) {
            imageZero.become(standing);
            keptZero = true;
        } else if (image == 1) {
            imageOne.become(standing);
            keptOne = true;
        } else {
            return BAD;
        }
        return standing.copiesNow();
    }

    public int back(int image) {
        if (image < 0 || image > 1) {
            return BAD;
        }
        if (image == 0 ? !keptZero : !keptOne) {
            return STATE;
        }
        standing.become(image == 0 ? imageZero : imageOne);
        return standing.copiesNow();
    }

    public int count(int what) {
        switch (what) {
            case 0:
                return house.opinions;
            case 1:
                return house.lines;
            case 2:
                return house.scribes;
            case 3:
                return house.need;
            case 4:
                return margins.size;
            case 5:
                return standing.known;
            case 6:
                return reader.length;
            default:
                return BAD;
        }
    }

    public long trace() {
        return marks.traced;
    }

    /** What a text tells, and what follows from it for one SCRIBE and one book. */
    private static final class House {
        private int opinions = OPINIONS_MOST;
        private int lines;
        private int books = 1;
        private int told;
        private int scribes;
        private int need = 1;
        private final int[] turn = new int[SCRIBES_MOST];
        private final int[] bent = new int[SCRIBES_MOST];

        private void begin() {
            opinions = OPINIONS_MOST;
            lines = 0;
            books = 1;
            told = 0;
            scribes = 0;
            need = 1;
        }

        private void addLine(int x) {
            if (lines < LINES_MOST) {
                lines++;
                books *= opinions;
                told = told * opinions + x;
            }
        }

        private void addScribe(int turnTold, int bentTold) {
            if (scribes >= 0 && scribes < SCRIBES_MOST) {
                turn[scribes] = turnTold;
                bent[scribes] = bentTold;
                scribes++;
            }
        }

        private boolean hasOpinion(int x) {
            return x >= 0 && x < opinions;
        }

        private boolean hasLine(int l) {
            return l >= 0 && l < lines;
        }

        private boolean hasScribe(int s) {
            return s >= 0 && s < scribes && s < SCRIBES_MOST;
        }

        private int allScribes() {
            return (1 << scribes) - 1;
        }

        private int turnOf(int s) {
            return hasScribe(s) ? turn[s] : 0;
        }

        private int bentOf(int s) {
            return hasScribe(s) ? bent[s] : 0;
        }

        private int saidBy(int s, int x) {
            return said(turnOf(s), bentOf(s), x, opinions);
        }

        /** How much LINE l counts for in a book's number. */
        private int weightOf(int l) {
            int weight = 1;
            for (int i = l + 1; i < lines; i++) {
                weight *= opinions;
            }
            return weight;
        }

        private int lineOf(int book, int l) {
            int weight = weightOf(l);
            return weight < 1 || opinions < 1 ? 0 : book / weight % opinions;
        }

        private int withLine(int book, int l, int x) {
            return book + (x - lineOf(book, l)) * weightOf(l);
        }

        /** The book that a SCRIBE would make of a book, CONVINCED by it or not. */
        private int becomes(int s, int book) {
            int made = 0;
            int rest = book;
            int weight = 1;
            for (int l = lines - 1; l >= 0 && opinions > 0; l--) {
                made += weight * saidBy(s, rest % opinions);
                rest /= opinions;
                weight *= opinions;
            }
            return made;
        }

        /** LINES (bits) of a book with which a SCRIBE DISAGREES. */
        private int unlikeLines(int s, int book) {
            int bits = 0;
            int rest = book;
            for (int l = lines - 1; l >= 0 && opinions > 0; l--) {
                int x = rest % opinions;
                if (saidBy(s, x) != x) {
                    bits |= 1 << l;
                }
                rest /= opinions;
            }
            return bits;
        }

        private boolean isConvinced(int s, int book) {
            return Integer.bitCount(unlikeLines(s, book)) < need;
        }

        private int comesRound(int s, int book) {
            int then = book;
            // There are no more books than this, so one that has not come by then never does.
            for (int n = 1; n <= books; n++) {
                then = becomes(s, then);
                if (then == book) {
                    return n;
                }
            }
            return NONE;
        }

        private static int said(int turnBy, int bentBy, int x, int opinionsBy) {
            return opinionsBy < 1 ? 0 : (turnBy * x + bentBy) % opinionsBy;
        }
    }

    /** THE TEXT, and its TOKENS and ITEMS one behind another. */
    private static final class Reader {
        private static final int TEXT_MOST = 120, NUMBER_MOST = 99;
        private static final int END = 0, LETTERS = 1, NUMBER = 2, STOP = 3, WRONG = 4;

        private final int[] text = new int[TEXT_MOST];
        private int length;
        private int next;
        /** The TOKEN read last: where it begins, what it is, its number or its one letter. */
        private int place;
        private int sort;
        private int value;
        private boolean bookTold;
        private boolean needTold;

        private boolean add(int c) {
            if (length < 0 || length >= TEXT_MOST) {
                return false;
            }
            text[length] = c;
            length++;
            return true;
        }

        private int empty() {
            int had = length;
            length = 0;
            return had;
        }

        /** Reads all into the draft: how many ITEMS, or -10 less FAULT. */
        private int read(House draft) {
            draft.begin();
            next = 0;
            bookTold = false;
            needTold = false;
            for (int items = 0; items <= TEXT_MOST; items++) {
                readToken();
                if (sort == END) {
                    return items;
                }
                boolean stands;
                switch (sort == LETTERS ? value : 0) {
                    case 'o':
                        stands = items == 0 && readOpinions(draft);
                        break;
                    case 'b':
                        stands = !bookTold && readBook(draft);
                        break;
                    case 's':
                        stands = draft.scribes < SCRIBES_MOST && readScribe(draft);
                        break;
                    case 'n':
                        stands = !needTold && readNeed(draft);
                        break;
                    default:
                        stands = false;
                }
                if (!stands) {
                    break;
                }
            }
            // Whatever could not stand, the TOKEN read last is the one at fault.
            return -10 - place;
        }

        private boolean readOpinions(House draft) {
            if (!readNumber(OPINIONS_LEAST, OPINIONS_MOST)) {
                return false;
            }
            draft.opinions = value;
            return readStop();
        }

        private boolean readBook(House draft) {
            bookTold = true;
            for (int l = 0; l < LINES_MOST; l++) {
                readToken();
                if (l > 0 && sort == STOP) {
                    return true;
                }
                if (sort != NUMBER || !draft.hasOpinion(value)) {
                    return false;
                }
                draft.addLine(value);
            }
            return readStop();
        }

        private boolean readScribe(House draft) {
            if (!readNumber(0, LAW_MOST)) {
                return false;
            }
            int turn = value;
            if (!readNumber(0, LAW_MOST)) {
                return false;
            }
            draft.addScribe(turn, value);
            return readStop();
        }

        private boolean readNeed(House draft) {
            needTold = true;
            if (!readNumber(1, NEED_MOST)) {
                return false;
            }
            draft.need = value;
            return readStop();
        }

        private boolean readNumber(int least, int most) {
            readToken();
            return sort == NUMBER && value >= least && value <= most;
        }

        private boolean readStop() {
            readToken();
            return sort == STOP;
        }

        private void readToken() {
            while (next < length && byteAt(next) == ' ') {
                next++;
            }
            place = next;
            int c = byteAt(next);
            if (isLetter(c)) {
                readLetters();
            } else if (isFigure(c)) {
                readFigures();
            } else if (c == ';') {
                next++;
                sort = STOP;
            } else {
                sort = c < 0 ? END : WRONG;
            }
        }

        private void readLetters() {
            while (next < length && isLetter(byteAt(next))) {
                next++;
            }
            sort = LETTERS;
            // Every ITEM begins with one letter alone; more of them begin none.
            value = next - place == 1 ? byteAt(place) : 0;
        }

        private void readFigures() {
            value = 0;
            while (next < length && isFigure(byteAt(next))) {
                // Held just above what may be, so that many figures can't wrap around.
                value = Math.min(value * 10 + byteAt(next) - '0', NUMBER_MOST + 1);
                next++;
            }
            boolean zeroAhead = next - place > 1 && byteAt(place) == '0';
            sort = zeroAhead || value > NUMBER_MOST ? WRONG : NUMBER;
        }

        /** -1 behind the end, which is no byte. */
        private int byteAt(int i) {
            return i >= 0 && i < length && i < TEXT_MOST ? text[i] : -1;
        }

        private static boolean isLetter(int c) {
            return c >= 'a' && c <= 'z';
        }

        private static boolean isFigure(int c) {
            return c >= '0' && c <= '9';
        }
    }

    /** NOW, as the highest of some rows; those under it are what may be UNDONE. */
    private static final class Standing {
        private static final int KNOWN_MOST = 10;
        private static final int BOOK = 0, COPIES = 1, RELEASED = 2, TIMES = 3;
        private static final int ROW = TIMES + SCRIBES_MOST;

        private final int[][] rows = new int[KNOWN_MOST + 1][ROW];
        /** How many may be UNDONE, and so the row of NOW. */
        private int known;

        private void begin(int book) {
            known = 0;
            for (int i = 0; i < ROW; i++) {
                put(i, 0);
            }
            put(BOOK, book);
        }

        private int at(int field) {
            return known >= 0 && known <= KNOWN_MOST && field >= 0 && field < ROW
                    ? rows[known][field] : 0;
        }

        private void put(int field, int value) {
            if (known >= 0 && known <= KNOWN_MOST && field >= 0 && field < ROW) {
                rows[known][field] = value;
            }
        }

        private int book() {
            return at(BOOK);
        }

        private int copiesNow() {
            return at(COPIES);
        }

        private int released() {
            return at(RELEASED);
        }

        private boolean isReleased(int s) {
            return ((released() >> s) & 1) == 1;
        }

        private int timesOf(int s) {
            return at(TIMES + s);
        }

        private void setBook(int book) {
            put(BOOK, book);
        }

        private void copied(int s, int book) {
            put(BOOK, book);
            put(COPIES, copiesNow() + 1);
            put(TIMES + s, timesOf(s) + 1);
        }

        private void turnReleased(int s) {
            put(RELEASED, released() ^ (1 << s));
        }

        /** Ahead of each change: NOW goes on in a row of its own above what it was. */
        private void remember() {
            if (known < KNOWN_MOST) {
                known++;
                copyRow(known - 1, rows, known);
                return;
            }
            for (int i = 0; i < KNOWN_MOST; i++) {
                copyRow(i + 1, rows, i);
            }
        }

        private boolean takeBack() {
            if (known < 1) {
                return false;
            }
            known--;
            return true;
        }

        private void become(Standing other) {
            known = other.known;
            for (int i = 0; i <= known; i++) {
                other.copyRow(i, rows, i);
            }
        }

        private void copyRow(int i, int[][] to, int j) {
            if (i >= 0 && i <= KNOWN_MOST && j >= 0 && j <= KNOWN_MOST) {
                System.arraycopy(rows[i], 0, to[j], 0, ROW);
            }
        }
    }

    /**
     * Which book each SCRIBE makes of each book. Worked out once for a house, since rounds and
     * ways ask it thousands of times.
     */
    private static final class Laws {
        private static final int CONVINCED = -1;

        private final int[] made = new int[SCRIBES_MOST * BOOKS_MOST];
        private int scribes;
        private int books = 1;

        private void learn(House house) {
            scribes = Math.min(house.scribes, SCRIBES_MOST);
            books = Math.min(house.books, BOOKS_MOST);
            for (int s = 0; s < scribes; s++) {
                for (int book = 0; book < books; book++) {
                    made[s * BOOKS_MOST + book] =
                            house.isConvinced(s, book) ? CONVINCED : house.becomes(s, book);
                }
            }
        }

        private int copyBy(int s, int book) {
            return s >= 0 && s < scribes && book >= 0 && book < books
                    ? made[s * BOOKS_MOST + book] : CONVINCED;
        }
    }

    /** A ROUND, and what is asked of many of them. */
    private static final class Rounds {
        private final Laws laws;
        /** Of the ROUND run last. */
        private int book;
        private int copies;
        private int ender;
        private boolean goesOn;

        private Rounds(Laws laws) {
            this.laws = laws;
        }

        private void run(int first, int bought, int most) {
            book = first;
            copies = 0;
            ender = NONE;
            goesOn = false;
            int s = boughtFrom(bought, 0);
            for (int i = 0; i < most && s != NONE; i++) {
                int then = laws.copyBy(s, book);
                if (then == Laws.CONVINCED) {
                    ender = s;
                    return;
                }
                book = then;
                copies++;
                s = boughtFrom(bought, s + 1);
            }
            goesOn = s != NONE;
        }

        /** With so many COPIES a book has come twice to the same SCRIBE, and will for ever. */
        private void runToEnd(int first, int bought) {
            run(first, bought, laws.books * laws.scribes);
        }

        private boolean reaches(int first, int bought, int n) {
            run(first, bought, n);
            return copies >= n;
        }

        /** NONE, if a ROUND goes on for ever. */
        private int longestBook(int bought) {
            int longest = NONE;
            int most = -1;
            for (int first = 0; first < laws.books; first++) {
                runToEnd(first, bought);
                if (goesOn) {
                    return NONE;
                }
                if (copies > most) {
                    most = copies;
                    longest = first;
                }
            }
            return longest;
        }

        private int fewestToBuy(int first, int bought, int released, int n) {
            for (int few = 0; few <= SCRIBES_MOST; few++) {
                for (int bits = 0; bits < (1 << SCRIBES_MOST); bits++) {
                    if (Integer.bitCount(bits) == few && (bits & ~released) == 0
                            && reaches(first, bought | bits, n)) {
                        return bits;
                    }
                }
            }
            return NONE;
        }

        /** The first SCRIBE bought in from s on, and round to the lowest. */
        private static int boughtFrom(int bought, int s) {
            for (int i = 0; i < SCRIBES_MOST; i++) {
                int t = (s + i) % SCRIBES_MOST;
                if (((bought >> t) & 1) == 1) {
                    return t;
                }
            }
            return NONE;
        }
    }

    /** WAY and FROM: what leads from book to book. */
    private static final class Ways {
        private static final int UNSEEN = -1;

        private final Laws laws;
        /** Of each book: in how many COPIES, behind which book, by which SCRIBE it comes. */
        private final int[] distance = new int[BOOKS_MOST];
        private final int[] before = new int[BOOKS_MOST];
        private final int[] lastScribe = new int[BOOKS_MOST];
        private final int[] queue = new int[BOOKS_MOST];
        private int queued;

        private Ways(Laws laws) {
            this.laws = laws;
        }

        /**
         * Books are found in the order of their first ways: each waits behind those with an
         * earlier way of the same length, so the way found first is the one asked for.
         */
        private void search(int first, int bought, int target) {
            for (int i = 0; i < BOOKS_MOST; i++) {
                distance[i] = UNSEEN;
            }
            queued = 0;
            find(first, first, NONE, 0);
            for (int i = 0; i < queued && i < BOOKS_MOST && !isFound(target); i++) {
                int book = queue[i];
                for (int s = 0; s < SCRIBES_MOST; s++) {
                    if (((bought >> s) & 1) == 1) {
                        find(laws.copyBy(s, book), book, s, distanceOf(book) + 1);
                    }
                }
            }
        }

        private void find(int book, int behindBook, int s, int far) {
            if (isBook(book) && !isFound(book) && queued >= 0 && queued < BOOKS_MOST) {
                distance[book] = far;
                before[book] = behindBook;
                lastScribe[book] = s;
                queue[queued] = book;
                queued++;
            }
        }

        private static boolean isBook(int book) {
            return book >= 0 && book < BOOKS_MOST;
        }

        private int distanceOf(int book) {
            return isBook(book) ? distance[book] : UNSEEN;
        }

        private boolean isFound(int book) {
            return distanceOf(book) != UNSEEN;
        }

        private int fewestCopies(int target) {
            return isFound(target) ? distanceOf(target) : NONE;
        }

        private int scribeOfCopy(int target, int i) {
            if (i < 0 || i >= distanceOf(target)) {
                return NONE;
            }
            int book = target;
            for (int n = 0; n < BOOKS_MOST && isBook(book) && distanceOf(book) > i + 1; n++) {
                book = before[book];
            }
            return isBook(book) ? lastScribe[book] : NONE;
        }

        /** How many books a SCRIBE COPIES so that they become this one. */
        private int countBefore(int s, int book) {
            int found = 0;
            for (int b = 0; b < laws.books; b++) {
                if (laws.copyBy(s, b) == book) {
                    found++;
                }
            }
            return found;
        }

        private int lastCopiers(int book) {
            int bits = 0;
            for (int s = 0; s < laws.scribes; s++) {
                if (countBefore(s, book) > 0) {
                    bits |= 1 << s;
                }
            }
            return bits;
        }

        private int sameLines(House house, int book) {
            int pattern = NONE;
            int bits = 0;
            for (int s = 0; s < laws.scribes; s++) {
                for (int b = 0; b < laws.books; b++) {
                    if (laws.copyBy(s, b) != book) {
                        continue;
                    }
                    if (pattern == NONE) {
                        pattern = b;
                        bits = (1 << house.lines) - 1;
                    }
                    bits &= alikeLines(house, pattern, b);
                }
            }
            return bits;
        }

        private static int alikeLines(House house, int a, int b) {
            int bits = 0;
            for (int l = 0; l < house.lines; l++) {
                if (house.lineOf(a, l) == house.lineOf(b, l)) {
                    bits |= 1 << l;
                }
            }
            return bits;
        }
    }

    /** MARGINS, and the laws that fit them. */
    private static final class Margins {
        private static final int MARGINS_MOST = 6;

        private final int[] of = new int[MARGINS_MOST];
        private final int[] said = new int[MARGINS_MOST];
        private int size;

        private boolean add(int x, int y) {
            if (size < 0 || size >= MARGINS_MOST) {
                return false;
            }
            of[size] = x;
            said[size] = y;
            size++;
            return true;
        }

        private int empty() {
            int had = size;
            size = 0;
            return had;
        }

        private boolean fits(int turn, int bent, int opinions) {
            for (int i = 0; i < size && i < MARGINS_MOST; i++) {
                if (House.said(turn, bent, of[i], opinions) != said[i]) {
                    return false;
                }
            }
            return true;
        }

        private int countFits(int opinions) {
            int found = 0;
            for (int turn = 0; turn < opinions; turn++) {
                for (int bent = 0; bent < opinions; bent++) {
                    if (fits(turn, bent, opinions)) {
                        found++;
                    }
                }
            }
            return found;
        }

        private int firstFit(int opinions) {
            for (int turn = 0; turn < opinions; turn++) {
                for (int bent = 0; bent < opinions; bent++) {
                    if (fits(turn, bent, opinions)) {
                        return 10 * turn + bent;
                    }
                }
            }
            return NONE;
        }

        /** NEXT; NONE, if no law fits. */
        private int mostTelling(int opinions) {
            int telling = NONE;
            int most = 0;
            for (int x = 0; x < opinions; x++) {
                int unlike = Integer.bitCount(answersTo(x, opinions));
                if (unlike > most) {
                    most = unlike;
                    telling = x;
                }
            }
            return telling;
        }

        /** OPINIONS (bits) that laws which fit say of x. */
        private int answersTo(int x, int opinions) {
            int bits = 0;
            for (int turn = 0; turn < opinions; turn++) {
                for (int bent = 0; bent < opinions; bent++) {
                    if (fits(turn, bent, opinions)) {
                        bits |= 1 << House.said(turn, bent, x, opinions);
                    }
                }
            }
            return bits;
        }

        private int fittingScribes(House house) {
            int bits = 0;
            for (int s = 0; s < house.scribes; s++) {
                if (fits(house.turnOf(s), house.bentOf(s), house.opinions)) {
                    bits |= 1 << s;
                }
            }
            return bits;
        }
    }

    /** MARK of one SCRIBE, whose numbers are put here first, as if of a KIND; and THE TRACE. */
    private static final class Marks {
        private static final int SCRIBE = 0, SCOFFER = 1, MONK = 2, HERETIC = 3, NOVICE = 4;
        private static final int KINDS = 6;
        private static final int[] ABOVE = {-1, SCRIBE, SCRIBE, SCOFFER, MONK, SCRIBE};
        private static final int[] TRACED = {1, 10, 100, 1000, 10000, 100000};

        private int unlike;
        private int turn;
        private int bent;
        private int times;
        private int copies;
        private long traced;

        private static boolean isKind(int kind) {
            return kind >= 0 && kind < KINDS;
        }

        private int ask(int kind, int depth) {
            if (!isKind(kind) || depth >= KINDS) {
                return 0;
            }
            traced += TRACED[kind];
            int up = ask(ABOVE[kind], depth + 1);
            switch (kind) {
                case SCRIBE:
                    return unlike;
                case SCOFFER:
                    return up + turn;
                case MONK:
                    return up - times;
                case HERETIC:
                    return up * 2;
                case NOVICE:
                    return up + bent;
                default:
                    return up + copies;
            }
        }
    }
}
