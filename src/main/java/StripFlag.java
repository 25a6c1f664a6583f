public final class StripFlag {
    public static final int NONE = -1, UNKNOWN = -1000000001, OUTSIDE = -1000000002, NOT = -1000000003, FULL = -1000000004;

    private static final int COLOURS_MOST = 4;
    private static final int STRIPS_MOST = 8;
    private static final int SEAMS_MOST = 12;
    private static final int COULDS_MOST = 8;
    private static final int STRENGTH_MOST = 9;
    private static final int PRICE_MOST = 99;
    private static final int TEXT_MOST = 500;
    private static final int BOOK_MOST = 30;
    private static final int TURNS_MOST = 4;
    private static final int YEARS_MOST = 99;
    private static final int IMAGES = 2;
    private static final long BILLION = 1000000000L;

    // Among the ends of a seam the pole is one more bit, behind those of all strips.
    private static final int POLE = 1 << STRIPS_MOST;

    private final Text text = new Text();
    private final Cloth now = new Cloth();
    private final Cloth[] images = {new Cloth(), new Cloth()};
    private final Book book = new Book();
    private final Cuts cuts = new Cuts();
    private final Year year = new Year();
    private final Turns turns = new Turns();
    private final Painter painter = new Painter();
    private final int[] lefts = new int[STRIPS_MOST];
    private Plan plan = new Plan();
    private Plan spare = new Plan();
    private int kept;

    public StripFlag() {
    }

    // ---- the flag

    public int feed(int n, long bytes) {
        if (n < 1 || n > 8) {
            return OUTSIDE;
        }
        if (!text.hasRoom(n)) {
            return FULL;
        }
        text.add(n, bytes);
        return text.length;
    }

    public int flag() {
        text.read(spare);
        text.length = 0;
        if (text.fault != 0) {
            return -10 - text.fault;
        }
        Plan told = spare;
        spare = plan;
        plan = told;
        now.begin(plan);
        for (int a = 0; a < STRIPS_MOST; a++) {
            lefts[a] = plan.allColours();
        }
        book.count = 0;
        kept = 0;
        return plan.strips;
    }

    public int fault() {
        return text.place;
    }

    public int told(int what) {
        switch (what) {
            case 0:
                return plan.colours;
            case 1:
                return plan.strips;
            case 2:
                return plan.seams;
            case 3:
                return plan.coulds;
            case 4:
                return text.length;
            case 5:
                return now.sewn();
            case 6:
                return now.hems;
            case 7:
                return now.cost(plan);
            case 8:
                return book.count;
            default:
                return OUTSIDE;
        }
    }

    public int seam(int s, int what) {
        if (!plan.hasSeam(s)) {
            return UNKNOWN;
        }
        switch (what) {
            case 0:
                return plan.from[s];
            case 1:
                return plan.to[s];
            case 2:
                return now.strengths[s];
            case 3:
                return has(now.hems, s) ? 1 : 0;
            default:
                return OUTSIDE;
        }
    }

    public int strip(int a, int what) {
        if (!plan.hasStrip(a)) {
            return UNKNOWN;
        }
        switch (what) {
            case 0:
                return now.colours[a];
            case 1:
                return plan.seamsOf(a, now.sewn());
            case 2:
                return plan.bordering(a, now.sewn());
            case 3:
                return lefts[a];
            default:
                return OUTSIDE;
        }
    }

    public int flies(int w) {
        if (w < 0 || w > STRENGTH_MOST) {
            return OUTSIDE;
        }
        return plan.flying(now.holding(w));
    }

    // ---- what is done

    public int unpick(int a, int s) {
        if (!plan.hasStrip(a) || !plan.hasSeam(s)) {
            return UNKNOWN;
        }
        if (!has(plan.unpickable(a, now.sewn(), now.hems), s)) {
            return NOT;
        }
        now.strengths[s] = 0;
        return Integer.bitCount(now.sewn());
    }

    public int sew(int s, int n) {
        if (!plan.hasSeam(s)) {
            return UNKNOWN;
        }
        if (n < 0 || n > STRENGTH_MOST) {
            return OUTSIDE;
        }
        int was = now.strengths[s];
        now.strengths[s] = n;
        return was;
    }

    public int hem(int s, boolean is) {
        if (!plan.hasSeam(s)) {
            return UNKNOWN;
        }
        int was = has(now.hems, s) ? 1 : 0;
        now.hems = is ? now.hems | (1 << s) : now.hems & ~(1 << s);
        return was;
    }

    public int fray(int w) {
        if (w < 0 || w > STRENGTH_MOST) {
            return OUTSIDE;
        }
        return now.frayEnds(plan, w);
    }

    public int dye(int a, int k) {
        if (!plan.hasStrip(a) || !plan.hasColour(k)) {
            return UNKNOWN;
        }
        int was = now.colours[a];
        now.colours[a] = k;
        return was;
    }

    public int drift(int n) {
        if (n < 1 || n > YEARS_MOST) {
            return OUTSIDE;
        }
        if (plan.strips == 0) {
            return NOT;
        }
        for (int i = 0; i < n; i++) {
            now.passYear(plan);
        }
        return plan.flying(now.sewn());
    }

    // ---- tried

    public int cut(int a, int what) {
        if (!plan.hasStrip(a)) {
            return UNKNOWN;
        }
        if (what < 0 || what > 1) {
            return OUTSIDE;
        }
        int fewest = Cuts.fewestSeams(plan, now.sewn(), a);
        return what == 0 ? Integer.bitCount(fewest) : fewest;
    }

    public int lasts(int set, int n) {
        if (!plan.hasStrips(set)) {
            return UNKNOWN;
        }
        if (n < 0 || n > 3) {
            return OUTSIDE;
        }
        cuts.findWeak(plan, now, set, n);
        return cuts.count == 0 ? 1 : 0;
    }

    public int hems(int set, int n) {
        if (!plan.hasStrips(set)) {
            return UNKNOWN;
        }
        if (n < 1 || n > 2) {
            return OUTSIDE;
        }
        cuts.findWeak(plan, now, set, n);
        return cuts.fewestHems(now.sewn() & ~now.hems);
    }

    public int thread(int n, int what) {
        if (n < 0 || n > 2 || what < 0 || what > 1) {
            return OUTSIDE;
        }
        cuts.findWeak(plan, now, plan.allStrips(), n);
        int least = cuts.leastThread(plan, n);
        return what == 1 || least == NONE ? least : plan.threadOf(least);
    }

    public int odds(int a, int q) {
        if (!plan.hasStrip(a)) {
            return UNKNOWN;
        }
        if (q < 0 || q > 100) {
            return OUTSIDE;
        }
        year.begin(a, q);
        return year.ofBillion(plan, now.sewn(), now.hems);
    }

    public int turnsOf(int a, int b, int n, int what) {
        if (!plan.hasStrip(a) || !plan.hasStrip(b) || a == b) {
            return UNKNOWN;
        }
        if (n < 0 || n > TURNS_MOST || what < 0 || what > 1) {
            return OUTSIDE;
        }
        turns.begin(a, b, n, now.hems);
        turns.play(plan, now.sewn());
        return what == 0 ? turns.worth : turns.taken;
    }

    public int colours(int a) {
        if (a != NONE && !plan.hasStrip(a)) {
            return UNKNOWN;
        }
        painter.paintAnew(plan, now.sewn());
        if (!painter.found) {
            return NONE;
        }
        return a == NONE ? painter.leastSum : painter.best[a];
    }

    // ---- the saint

    public int left(int a, int set) {
        if (!plan.hasStrip(a) || !plan.hasColours(set)) {
            return UNKNOWN;
        }
        int was = lefts[a];
        lefts[a] = set;
        return was;
    }

    public int fits() {
        painter.lookBack(plan, now.sewn(), lefts);
        return painter.ways(plan);
    }

    public int sure(int a) {
        if (!plan.hasStrip(a)) {
            return UNKNOWN;
        }
        painter.lookBack(plan, now.sewn(), lefts);
        return painter.onlyColour(plan, a);
    }

    // ---- books, draws, images

    public int write(int a, int s) {
        if (!plan.hasStrip(a) || !plan.hasSeam(s)) {
            return UNKNOWN;
        }
        if (book.count >= BOOK_MOST) {
            return FULL;
        }
        book.add(a, s);
        return book.count;
    }

    public int tear() {
        int was = book.count;
        book.count = 0;
        return was;
    }

    public int judge() {
        return book.firstWrong(plan, now);
    }

    public int seed(int v) {
        if (v < 0) {
            return OUTSIDE;
        }
        int was = now.seed;
        now.seed = v;
        return was;
    }

    public int keep(int i) {
        if (i < 0 || i >= IMAGES) {
            return UNKNOWN;
        }
        images[i].copy(now);
        kept |= 1 << i;
        return 1;
    }

    public int goBack(int i) {
        if (i < 0 || i >= IMAGES) {
            return UNKNOWN;
        }
        if (!has(kept, i)) {
            return NOT;
        }
        now.copy(images[i]);
        return 1;
    }

    private static boolean has(int set, int k) {
        return ((set >> k) & 1) != 0;
    }

    /** What a text told: it does not change until another text takes its place. */
    private static final class Plan {
        final int[] prices = new int[COLOURS_MOST];
        final int[] dyes = new int[STRIPS_MOST];
        final int[] from = new int[SEAMS_MOST];
        final int[] to = new int[SEAMS_MOST];
        final int[] strengths = new int[SEAMS_MOST];
        final int[] ends = new int[SEAMS_MOST];
        final int[] couldEnds = new int[COULDS_MOST];
        final int[] threads = new int[COULDS_MOST];
        int colours;
        int strips;
        int seams;
        int coulds;

        void clear() {
            colours = 0;
            strips = 0;
            seams = 0;
            coulds = 0;
            for (int s = 0; s < SEAMS_MOST; s++) {
                // A seam that this text does not tell must look gone, not like one of an older text.
                strengths[s] = 0;
            }
        }

        void addColour(int price) {
            if (colours >= 0 && colours < COLOURS_MOST) {
                prices[colours] = price;
                colours++;
            }
        }

        void addStrip(int colour) {
            if (strips >= 0 && strips < STRIPS_MOST) {
                dyes[strips] = colour;
                strips++;
            }
        }

        void addSeam(int a, int b, int strength) {
            if (seams >= 0 && seams < SEAMS_MOST) {
                from[seams] = a;
                to[seams] = b;
                ends[seams] = (1 << a) | (b == NONE ? POLE : 1 << b);
                strengths[seams] = strength;
                seams++;
            }
        }

        void addCould(int a, int b, int thread) {
            if (coulds >= 0 && coulds < COULDS_MOST) {
                couldEnds[coulds] = (1 << a) | (b == a ? POLE : 1 << b);
                threads[coulds] = thread;
                coulds++;
            }
        }

        boolean hasStrip(int a) {
            return a >= 0 && a < strips && a < STRIPS_MOST;
        }

        boolean hasSeam(int s) {
            return s >= 0 && s < seams && s < SEAMS_MOST;
        }

        boolean hasColour(int k) {
            return k >= 0 && k < colours && k < COLOURS_MOST;
        }

        boolean hasStrips(int set) {
            return (set & ~allStrips()) == 0;
        }

        boolean hasColours(int set) {
            return (set & ~allColours()) == 0;
        }

        int allStrips() {
            return (1 << strips) - 1;
        }

        int allColours() {
            return (1 << colours) - 1;
        }

        int priceOf(int k) {
            return hasColour(k) ? prices[k] : 0;
        }

        int cheapest() {
            int least = PRICE_MOST;
            for (int k = 0; k < colours && k < COLOURS_MOST; k++) {
                least = Math.min(least, prices[k]);
            }
            return least;
        }

        int threadOf(int set) {
            int sum = 0;
            for (int c = 0; c < COULDS_MOST; c++) {
                if (has(set, c)) {
                    sum += threads[c];
                }
            }
            return sum;
        }

        /** The seams among sewn that have one end among the strips of side, the other one not. */
        int crossing(int side, int sewn) {
            int crossed = 0;
            for (int s = 0; s < SEAMS_MOST; s++) {
                if (has(sewn, s) && (ends[s] & side) != 0 && (ends[s] & ~side) != 0) {
                    crossed |= 1 << s;
                }
            }
            return crossed;
        }

        int couldsCrossing(int side) {
            int crossed = 0;
            for (int c = 0; c < coulds && c < COULDS_MOST; c++) {
                if ((couldEnds[c] & side) != 0 && (couldEnds[c] & ~side) != 0) {
                    crossed |= 1 << c;
                }
            }
            return crossed;
        }

        int seamsOf(int a, int sewn) {
            return crossing(1 << a, sewn);
        }

        int bordering(int a, int sewn) {
            int near = 0;
            for (int s = 0; s < SEAMS_MOST; s++) {
                if (has(sewn, s) && has(ends[s], a)) {
                    near |= ends[s];
                }
            }
            return near & ~POLE & ~(1 << a);
        }

        /** The seams among sewn that the parish of a may take away. */
        int unpickable(int a, int sewn, int hems) {
            int near = bordering(a, sewn);
            int may = 0;
            for (int s = 0; s < SEAMS_MOST; s++) {
                if (has(sewn & ~hems, s) && !has(ends[s], a) && (ends[s] & near) != 0) {
                    may |= 1 << s;
                }
            }
            return may;
        }

        /** The strips that come to the pole by seams among sewn. */
        int flying(int sewn) {
            int held = POLE;
            for (int step = 0; step < STRIPS_MOST; step++) {
                int wider = spread(held, sewn);
                if (wider == held) {
                    break;
                }
                held = wider;
            }
            return held & ~POLE;
        }

        private int spread(int held, int sewn) {
            int wider = held;
            for (int s = 0; s < SEAMS_MOST; s++) {
                if (has(sewn, s) && (ends[s] & wider) != 0) {
                    wider |= ends[s];
                }
            }
            return wider;
        }
    }

    /** All that an image keeps. */
    private static final class Cloth {
        final int[] strengths = new int[SEAMS_MOST];
        final int[] colours = new int[STRIPS_MOST];
        int hems;
        int seed;

        void begin(Plan plan) {
            System.arraycopy(plan.strengths, 0, strengths, 0, SEAMS_MOST);
            System.arraycopy(plan.dyes, 0, colours, 0, STRIPS_MOST);
            hems = 0;
        }

        void copy(Cloth other) {
            System.arraycopy(other.strengths, 0, strengths, 0, SEAMS_MOST);
            System.arraycopy(other.colours, 0, colours, 0, STRIPS_MOST);
            hems = other.hems;
            seed = other.seed;
        }

        int sewn() {
            return holding(0);
        }

        /** The seams that are not gone and hold in a wind. */
        int holding(int wind) {
            int hold = 0;
            for (int s = 0; s < SEAMS_MOST; s++) {
                if (strengths[s] > 0 && strengths[s] >= wind) {
                    hold |= 1 << s;
                }
            }
            return hold;
        }

        int cost(Plan plan) {
            int sum = 0;
            for (int a = 0; a < plan.strips && a < STRIPS_MOST; a++) {
                sum += plan.priceOf(colours[a]);
            }
            return sum;
        }

        int frayEnds(Plan plan, int wind) {
            int loose = looseSeams(plan);
            int gone = 0;
            for (int s = 0; s < SEAMS_MOST; s++) {
                if (has(loose, s)) {
                    strengths[s] = Math.max(0, strengths[s] - wind);
                    gone |= strengths[s] == 0 ? 1 << s : 0;
                }
            }
            return gone;
        }

        private int looseSeams(Plan plan) {
            int sewn = sewn();
            int loose = 0;
            for (int a = 0; a < plan.strips; a++) {
                int own = plan.seamsOf(a, sewn);
                if (Integer.bitCount(own) == 1) {
                    loose |= own;
                }
            }
            return loose;
        }

        void passYear(Plan plan) {
            for (int a = 0; a < plan.strips; a++) {
                if (draw(3) == 0 && plan.seams > 0) {
                    tryUnpick(plan, a, draw(plan.seams));
                }
            }
            frayEnds(plan, draw(3));
        }

        private void tryUnpick(Plan plan, int a, int s) {
            if (plan.hasSeam(s) && has(plan.unpickable(a, sewn(), hems), s)) {
                strengths[s] = 0;
            }
        }

        private int draw(int n) {
            seed = (int) ((seed * 1103515245L + 12345L) & 0x7fffffffL);
            return n > 0 ? seed / 65536 % n : 0;
        }
    }

    /** The bytes that were fed, and how they are read. */
    private static final class Text {
        private static final int NO_WORD = 0, COLOURS = 1, STRIP = 2, POLE_SEAM = 3, SEAM = 4, COULD = 5;
        private static final int END = -1;

        final byte[] signs = new byte[TEXT_MOST];
        int length;
        int fault;
        int place = NONE;
        private int at;
        private int numberAt;

        boolean hasRoom(int n) {
            return length + n <= TEXT_MOST;
        }

        void add(int n, long bytes) {
            for (int i = n - 1; i >= 0; i--) {
                if (length >= 0 && length < TEXT_MOST) {
                    signs[length] = (byte) (bytes >> (8 * i));
                    length++;
                }
            }
        }

        void read(Plan into) {
            into.clear();
            fault = 0;
            place = NONE;
            at = 0;
            for (int clause = 0; clause <= TEXT_MOST; clause++) {
                skipBlanks();
                if (sign() == END || fault != 0) {
                    break;
                }
                readClause(into);
            }
        }

        private void readClause(Plan into) {
            int start = at;
            int word = readWord();
            if (word == NO_WORD || (word != COLOURS && into.colours == 0)) {
                fail(1, start);
            } else if (isTooMany(into, word)) {
                fail(3, start);
            } else if (word == COLOURS) {
                readColours(into);
            } else {
                readNumbers(into, word);
            }
        }

        private static boolean isTooMany(Plan into, int word) {
            switch (word) {
                case COLOURS:
                    return into.colours > 0;
                case STRIP:
                    return into.strips >= STRIPS_MOST;
                case COULD:
                    return into.coulds >= COULDS_MOST;
                default:
                    return into.seams >= SEAMS_MOST;
            }
        }

        private void readColours(Plan into) {
            for (int k = 0; k < COLOURS_MOST; k++) {
                int price = readNumber(0, PRICE_MOST);
                skipBlanks();
                boolean isLast = sign() == ';';
                if (!isLast && (sign() != ',' || k == COLOURS_MOST - 1)) {
                    fail(1, at);
                }
                if (fault != 0) {
                    return;
                }
                into.addColour(price);
                at++;
                if (isLast) {
                    return;
                }
            }
        }

        private void readNumbers(Plan into, int word) {
            int a = readNumber(0, word == STRIP ? into.colours - 1 : into.strips - 1);
            int b = NONE;
            if (word == SEAM || word == COULD) {
                b = readNumber(0, into.strips - 1);
                if (word == SEAM && a == b) {
                    fail(4, numberAt);
                }
            }
            int last = 0;
            if (word == COULD) {
                last = readNumber(0, PRICE_MOST);
            } else if (word != STRIP) {
                last = readNumber(1, STRENGTH_MOST);
            }
            readEnd();
            if (fault == 0) {
                addTold(into, word, a, b, last);
            }
        }

        private static void addTold(Plan into, int word, int a, int b, int last) {
            if (word == STRIP) {
                into.addStrip(a);
            } else if (word == COULD) {
                into.addCould(a, b, last);
            } else {
                into.addSeam(a, b, last);
            }
        }

        private void readEnd() {
            skipBlanks();
            if (sign() == ';') {
                at++;
            } else {
                fail(1, at);
            }
        }

        private int readNumber(int low, int high) {
            skipBlanks();
            numberAt = at;
            int number = 0;
            int end = endOfRun('0', '9');
            if (end == at) {
                fail(1, at);
            }
            for (int i = at; i < end && i < at + 3; i++) {
                number = number * 10 + signAt(i) - '0';
            }
            if (end - at > 3 || number < low || number > high) {
                fail(2, at);
            }
            at = end;
            return number;
        }

        private int readWord() {
            int start = at;
            at = endOfRun('a', 'z');
            if (isWord(start, "colours")) {
                return COLOURS;
            }
            if (isWord(start, "strip")) {
                return STRIP;
            }
            if (isWord(start, "pole")) {
                return POLE_SEAM;
            }
            if (isWord(start, "seam")) {
                return SEAM;
            }
            return isWord(start, "could") ? COULD : NO_WORD;
        }

        private boolean isWord(int start, String word) {
            if (at - start != word.length()) {
                return false;
            }
            for (int i = 0; i < word.length(); i++) {
                if (signAt(start + i) != word.charAt(i)) {
                    return false;
                }
            }
            return true;
        }

        private int endOfRun(int low, int high) {
            int end = at;
            while (end < length && signAt(end) >= low && signAt(end) <= high) {
                end++;
            }
            return end;
        }

        private void skipBlanks() {
            while (at < length && signAt(at) == ' ') {
                at++;
            }
        }

        private int sign() {
            return signAt(at);
        }

        private int signAt(int i) {
            return i >= 0 && i < length && i < TEXT_MOST ? signs[i] & 255 : END;
        }

        // A clause is read on behind its fault: only the first one counts.
        private void fail(int number, int where) {
            if (fault == 0) {
                fault = number;
                place = where;
            }
        }
    }

    /**
     * Strips come down just if all seams between some side of strips and the rest, the pole among it, are gone.
     * So all that lasts or falls is asked of the seams that cross from a side.
     */
    private static final class Cuts {
        private static final int SIDES = 1 << STRIPS_MOST;

        final int[] weak = new int[SIDES];
        final int[] helps = new int[SIDES];
        int count;

        static int fewestSeams(Plan plan, int sewn, int a) {
            int fewest = plan.seamsOf(a, sewn);
            for (int side = 1; side <= plan.allStrips(); side++) {
                if (has(side, a)) {
                    fewest = lesser(plan.crossing(side, sewn), fewest);
                }
            }
            return fewest;
        }

        private static int lesser(int seams, int others) {
            int more = Integer.bitCount(seams) - Integer.bitCount(others);
            return more < 0 || (more == 0 && seams < others) ? seams : others;
        }

        /** Finds the sides with strips of set that n seams without hem, taken away, part from the pole. */
        void findWeak(Plan plan, Cloth cloth, int set, int n) {
            int sewn = cloth.sewn();
            count = 0;
            for (int side = 1; side <= plan.allStrips(); side++) {
                if ((side & set) != 0) {
                    int crossed = plan.crossing(side, sewn);
                    if ((crossed & cloth.hems) == 0 && Integer.bitCount(crossed) <= n) {
                        addWeak(crossed, plan.couldsCrossing(side));
                    }
                }
            }
        }

        private void addWeak(int crossed, int helping) {
            if (count >= 0 && count < SIDES) {
                weak[count] = crossed;
                helps[count] = helping;
                count++;
            }
        }

        int fewestHems(int free) {
            int fewest = NONE;
            for (int hems = 0; hems <= free; hems++) {
                boolean isFewer = fewest == NONE || Integer.bitCount(hems) < Integer.bitCount(fewest);
                if (isFewer && (hems & ~free) == 0 && isHeld(hems)) {
                    fewest = hems;
                }
            }
            return fewest;
        }

        private boolean isHeld(int hems) {
            for (int i = 0; i < count && i < SIDES; i++) {
                if ((weak[i] & hems) == 0) {
                    return false;
                }
            }
            return true;
        }

        int leastThread(Plan plan, int n) {
            int least = NONE;
            int leastSum = 0;
            for (int coulds = 0; coulds < 1 << plan.coulds; coulds++) {
                int sum = plan.threadOf(coulds);
                if ((least == NONE || sum < leastSum) && isMended(coulds, n)) {
                    least = coulds;
                    leastSum = sum;
                }
            }
            return least;
        }

        private boolean isMended(int coulds, int n) {
            for (int i = 0; i < count && i < SIDES; i++) {
                if (Integer.bitCount(weak[i]) + Integer.bitCount(helps[i] & coulds) <= n) {
                    return false;
                }
            }
            return true;
        }
    }

    /** A year in which seams may go. */
    private static final class Year {
        private int strip;
        private int percent;

        void begin(int a, int q) {
            strip = a;
            percent = q;
        }

        /** Of a part in which the seams of stays are left: what flies, when each of open, from s on, may go. */
        private static long partFlying(Year year, Plan plan, int stays, int open, int s, long part) {
            if (part == 0 || !has(plan.flying(stays | open), year.strip)) {
                return 0;
            }
            // What is parted is never lost: where the open ones do not matter, the whole part flies.
            if (s >= SEAMS_MOST || has(plan.flying(stays), year.strip)) {
                return part;
            }
            int seam = 1 << s;
            if ((open & seam) == 0) {
                return partFlying(year, plan, stays, open, s + 1, part);
            }
            long goes = part * year.percent / 100;
            return partFlying(year, plan, stays, open & ~seam, s + 1, goes)
                    + partFlying(year, plan, stays | seam, open & ~seam, s + 1, part - goes);
        }

        int ofBillion(Plan plan, int sewn, int hems) {
            return (int) partFlying(this, plan, sewn & hems, sewn & ~hems, 0, BILLION);
        }
    }

    /** Two parishes that unpick by turns. What one has the other lacks, so each plays for the most of its own. */
    private static final class Turns {
        // What one parish can have at most: its own strip flies, the other's does not.
        private static final int MOST = 3;

        int worth;
        int taken;
        private int first;
        private int second;
        private int turns;
        private int hems;

        void begin(int a, int b, int n, int hemmed) {
            first = a;
            second = b;
            turns = n;
            hems = hemmed;
        }

        void play(Plan plan, int sewn) {
            taken = NONE;
            if (turns <= 0) {
                worth = worthAtEnd(plan, sewn, 0);
                return;
            }
            worth = -worthFrom(this, plan, sewn, 1, -MOST, MOST);
            int may = plan.unpickable(first, sewn, hems);
            for (int s = 0; s < SEAMS_MOST && worth < MOST; s++) {
                if (has(may, s)) {
                    int tried = -worthFrom(this, plan, sewn & ~(1 << s), 1, -MOST, -worth);
                    if (tried > worth) {
                        worth = tried;
                        taken = s;
                    }
                }
            }
        }

        /** What the one whose turn it is comes to have; below low or above high it need not be exact. */
        private static int worthFrom(Turns game, Plan plan, int sewn, int turn, int low, int high) {
            if (turn >= game.turns || turn >= TURNS_MOST) {
                return game.worthAtEnd(plan, sewn, turn);
            }
            int best = -worthFrom(game, plan, sewn, turn + 1, -high, -low);
            int may = plan.unpickable(game.mover(turn), sewn, game.hems);
            for (int s = 0; s < SEAMS_MOST && best < high; s++) {
                if (has(may, s)) {
                    int tried = -worthFrom(game, plan, sewn & ~(1 << s), turn + 1, -high, -Math.max(low, best));
                    best = Math.max(best, tried);
                }
            }
            return best;
        }

        private int mover(int turn) {
            return turn % 2 == 0 ? first : second;
        }

        private int worthAtEnd(Plan plan, int sewn, int turn) {
            int flying = plan.flying(sewn);
            int own = has(flying, mover(turn)) ? 1 : 0;
            int other = has(flying, mover(turn + 1)) ? 1 : 0;
            return 2 * own - other - (2 * other - own);
        }
    }

    /** Tries colours strip by strip, so that no two that border are alike. */
    private static final class Painter {
        boolean found;
        int leastSum;
        final int[] best = new int[STRIPS_MOST];
        private final int[] near = new int[STRIPS_MOST];
        private final int[] open = new int[STRIPS_MOST];
        private final int[] chosen = new int[STRIPS_MOST];
        private int cheapest;

        private void look(Plan plan, int sewn) {
            for (int a = 0; a < STRIPS_MOST; a++) {
                near[a] = plan.bordering(a, sewn);
            }
        }

        void paintAnew(Plan plan, int sewn) {
            look(plan, sewn);
            found = false;
            leastSum = 0;
            cheapest = plan.cheapest();
            paintFrom(this, plan, 0, 0);
        }

        // Colours are tried from the least on, so the first of like sums is found first.
        private static void paintFrom(Painter painter, Plan plan, int a, int sum) {
            int leastRest = (plan.strips - a) * painter.cheapest;
            if (painter.found && sum + leastRest >= painter.leastSum) {
                return;
            }
            if (!plan.hasStrip(a)) {
                painter.take(sum);
                return;
            }
            int may = plan.allColours() & ~painter.usedNear(a);
            for (int k = 0; k < COLOURS_MOST; k++) {
                if (has(may, k)) {
                    painter.chosen[a] = k;
                    paintFrom(painter, plan, a + 1, sum + plan.priceOf(k));
                }
            }
        }

        private void take(int sum) {
            found = true;
            leastSum = sum;
            System.arraycopy(chosen, 0, best, 0, STRIPS_MOST);
        }

        private int usedNear(int a) {
            int used = 0;
            for (int b = 0; b < a && a < STRIPS_MOST; b++) {
                if (has(near[a], b)) {
                    used |= 1 << chosen[b];
                }
            }
            return used;
        }

        void lookBack(Plan plan, int sewn, int[] lefts) {
            look(plan, sewn);
            for (int a = 0; a < STRIPS_MOST && a < lefts.length; a++) {
                open[a] = lefts[a];
            }
        }

        private static int waysFrom(Painter painter, Plan plan, int a) {
            if (!plan.hasStrip(a)) {
                return 1;
            }
            int may = painter.open[a] & ~painter.usedNear(a);
            // Where no later strip borders this one, each colour leaves the others the same ways.
            if (painter.near[a] >> a == 0) {
                return may == 0 ? 0 : Integer.bitCount(may) * waysFrom(painter, plan, a + 1);
            }
            int ways = 0;
            for (int k = 0; k < COLOURS_MOST; k++) {
                if (has(may, k)) {
                    painter.chosen[a] = k;
                    ways += waysFrom(painter, plan, a + 1);
                }
            }
            return ways;
        }

        int ways(Plan plan) {
            return waysFrom(this, plan, 0);
        }

        int onlyColour(Plan plan, int a) {
            if (!plan.hasStrip(a)) {
                return NONE;
            }
            int may = open[a];
            int only = NONE;
            for (int k = 0; k < COLOURS_MOST; k++) {
                open[a] = may & (1 << k);
                if (ways(plan) > 0) {
                    if (only != NONE) {
                        return NONE;
                    }
                    only = k;
                }
            }
            return only;
        }
    }

    /** Unpickings that are tried from what is so when they are judged. */
    private static final class Book {
        final int[] strips = new int[BOOK_MOST];
        final int[] seams = new int[BOOK_MOST];
        int count;

        void add(int a, int s) {
            if (count >= 0 && count < BOOK_MOST) {
                strips[count] = a;
                seams[count] = s;
                count++;
            }
        }

        int firstWrong(Plan plan, Cloth cloth) {
            int sewn = cloth.sewn();
            for (int i = 0; i < count && i < BOOK_MOST; i++) {
                if (!has(plan.unpickable(strips[i], sewn, cloth.hems), seams[i])) {
                    return i;
                }
                sewn &= ~(1 << seams[i]);
            }
            return NONE;
        }
    }
}
