import java.util.Arrays;
import java.util.NoSuchElementException;

/** Guests' pages in a machine's frames, and a scanner that lays like ones together. */
public final class GuestPages {
    public static final int NONE = -1;

    /** As many FRAMES, and as many PAGES (4 GUESTS of 12), as there can be. */
    private static final int MANY = 48;
    private static final int GUESTS = 4;
    private static final int PAGES = 12;
    private static final int REALMS = 3;
    private static final int CELLS = 4;
    private static final int TOP = 15;
    /** By how many bits CELL 0 is shifted where four CELLS are held as four times four bits. */
    private static final int HIGHEST = 12;
    private static final int LONGEST = 700;
    private static final int FED = 20;
    private static final int ACTS = 40;
    private static final int NOTES = 8;
    private static final int MOST_SCANS = 100;
    private static final int MOST_TICKS = 20;
    private static final int LAST_TIME = 9999;
    private static final int FAR = 60;
    private static final int HALF_FAR = 40;
    private static final int FAR_SCANS = 400;

    /** What is counted: in the order of count(10) to count(20), and SCANNED in this ROUND. */
    private static final int RATE = 0;
    private static final int ROUNDS = 1;
    private static final int TIME = 2;
    private static final int WORK = 3;
    private static final int SCANS = 4;
    private static final int JOINS = 5;
    private static final int PAIRS = 6;
    private static final int ZEROES = 7;
    private static final int SPLITS = 8;
    private static final int CURSOR = 9;
    private static final int YIELD = 10;
    private static final int LOT = 11;
    private static final int TALLIES = 12;

    /** What befalls a PAGE that is SCANNED. */
    private static final int ABSENT = 1;
    private static final int MERGED = 2;
    private static final int RESTS = 3;
    private static final int ZEROED = 4;
    private static final int JOINED = 5;
    private static final int BUSY = 6;
    private static final int HIDDEN = 7;
    private static final int PAIRED = 8;
    private static final int WAITS = 9;

    private final Plan plan = new Plan();
    private final Plan draft = new Plan();
    private final Text text = new Text();
    private final Book book = new Book(plan);
    private final Book kept = new Book(plan);
    private final State trial = new State(plan);
    private final Maker maker = new Maker(text, draft, trial);
    private final Order order = new Order(text, plan);
    private final Draws draws = new Draws();
    private final int[] series = new int[MOST_TICKS + 1];
    private final long[] seen = new long[MOST_TICKS + 1];
    private boolean imaged = false;
    private int faultAt = NONE;

    public GuestPages() {
    }

    public int feed(int a, int b, int c, int d, int e) {
        if (text.fed + FED > LONGEST) {
            return NONE;
        }
        text.append(a);
        text.append(b);
        text.append(c);
        text.append(d);
        text.append(e);
        return text.fed;
    }

    public int machine(int n) throws IllegalArgumentException {
        openText(n);
        maker.makeAll();
        closeText();
        if (text.fault != 0) {
            return text.fault;
        }
        plan.become(draft);
        trial.tally[RATE] = plan.least;
        book.now.become(trial);
        book.acts.clear();
        book.noted = 0;
        imaged = false;
        return 0;
    }

    public int orders(int n) throws IllegalArgumentException {
        openText(n);
        int many = order.countAll();
        closeText();
        if (text.fault != 0) {
            return -10 - text.fault;
        }
        book.acts.ahead(book.now);
        text.begin(n);
        for (int i = 0; i < many && order.isNext(); i++) {
            if (obey() == NONE) {
                book.acts.giveUp(book.now);
                book.status[1]++;
                return -100 - i;
            }
        }
        if (many > 0) {
            book.acts.stand();
        }
        return many;
    }

    public int fault() {
        return faultAt;
    }

    public int count(int what) throws NoSuchElementException {
        if (what >= 10 && what <= 20) {
            return book.now.tally[what - 10];
        }
        if (what >= 25 && what <= 27) {
            return book.status[what - 25];
        }
        switch (what) {
            case 0:
                return plan.frames;
            case 1:
                return book.now.used();
            case 2:
                return book.now.mergedFrames();
            case 3:
                return plan.guests;
            case 4:
                return plan.pages;
            case 5:
                return book.now.mergedPages(0, plan.pages);
            case 6:
                return book.now.absentPages(0, plan.pages);
            case 7:
                return book.now.advisedPages(0, plan.pages);
            case 8:
                return book.now.waiting.size();
            case 9:
                return book.now.stable.size();
            case 21:
                return plan.share;
            case 22:
                return book.acts.many;
            case 23:
                return book.noted;
            case 24:
                return text.fed;
            default:
                throw new NoSuchElementException();
        }
    }

    public int guest(int guest, int what) throws NoSuchElementException {
        mustBe(guest >= 0 && guest < plan.guests);
        int from = plan.first[guest];
        int behind = from + plan.pagesOf[guest];
        switch (what) {
            case 0:
                return plan.pagesOf[guest];
            case 1:
                return plan.realm[guest];
            case 2:
                return book.now.absentPages(from, behind);
            case 3:
                return book.now.mergedPages(from, behind);
            case 4:
                return book.now.advisedPages(from, behind);
            case 5:
                return book.now.framesOf(from, behind);
            default:
                throw new NoSuchElementException();
        }
    }

    public int read(int guest, int page, int cell) throws NoSuchElementException {
        int p = placeOf(guest, page);
        mustBeCell(cell);
        return cellOf(book.now.cellsAt(p), cell);
    }

    public int page(int guest, int page, int what) throws NoSuchElementException {
        int p = placeOf(guest, page);
        State now = book.now;
        switch (what) {
            case 0:
                return now.lies.in[p];
            case 1:
                return now.isMerged(p) ? 1 : 0;
            case 2:
                return now.advised[p];
            case 3:
                return now.befell[p];
            case 4:
                return now.sum[p];
            case 5:
                return now.age[p];
            case 6:
                return now.rest[p];
            case 7:
                return now.waiting.slotOf(p) == NONE ? 0 : 1;
            default:
                throw new NoSuchElementException();
        }
    }

    public int frame(int frame, int i) throws NoSuchElementException {
        mustBe(frame >= 0 && frame < plan.frames);
        if (i == NONE) {
            return book.now.lies.sizeOf(frame);
        }
        int p = book.now.lies.nth(frame, i);
        mustBe(p != NONE);
        return plan.labelOf(p);
    }

    public int chain(int frame, int i) throws NoSuchElementException {
        mustBe(frame >= 0 && frame < plan.frames);
        int k = book.now.chains.in[frame];
        mustBe(k != NONE);
        if (i == NONE) {
            return book.now.chains.sizeOf(k);
        }
        int f = book.now.chains.nth(k, i);
        mustBe(f != NONE);
        return f;
    }

    public int knot(int realm, boolean stable, int i, int what) throws NoSuchElementException {
        mustBe(realm >= 0 && realm < REALMS);
        Tree tree = stable ? book.now.stable : book.now.waiting;
        if (i == NONE) {
            return tree.sizeOf(realm);
        }
        int k = tree.nth(realm, i);
        mustBe(k != NONE && (what == 0 || what == 1));
        if (what == 1) {
            return tree.above(k);
        }
        return stable ? book.now.chains.first[k] : plan.labelOf(k);
    }

    public int like(int guest, int page, int i) throws NoSuchElementException {
        int p = placeOf(guest, page);
        int with = book.now.cellsAt(p);
        int many = 0;
        for (int q = 0; q < plan.pages; q++) {
            if (q == p || book.now.cellsAt(q) != with) {
                continue;
            }
            if (many == i) {
                return plan.labelOf(q);
            }
            many++;
        }
        mustBe(i == NONE);
        return many;
    }

    public int write(int guest, int page, int cell, int number) throws NoSuchElementException {
        int p = placeOf(guest, page);
        mustBeCell(cell);
        if (number < 0 || number > TOP) {
            return refused();
        }
        book.acts.ahead(book.now);
        return acted(book.now.putCell(p, cell, number));
    }

    public int copy(int guest, int page, int other, int otherPage) throws NoSuchElementException {
        int p = placeOf(guest, page);
        int q = placeOf(other, otherPage);
        book.acts.ahead(book.now);
        return acted(book.now.put(p, book.now.cellsAt(q)));
    }

    public int drop(int guest, int page) throws NoSuchElementException {
        int p = placeOf(guest, page);
        book.acts.ahead(book.now);
        return acted(book.now.dropPage(p));
    }

    public int advise(int guest, int from, int to, boolean advised) throws NoSuchElementException {
        int first = placeOf(guest, from);
        int last = placeOf(guest, to);
        book.acts.ahead(book.now);
        int many = advised ? book.now.adviseAll(first, last) : book.now.adviseNoMore(first, last);
        return acted(many == 0 ? NONE : many);
    }

    public int scan(int many) {
        if (many < 1 || many > MOST_SCANS) {
            return refused();
        }
        book.acts.ahead(book.now);
        return acted(book.now.scanMany(many));
    }

    public int ticks(int many) {
        if (many < 1 || many > MOST_TICKS || !book.now.hasTimeFor(many)) {
            return refused();
        }
        book.acts.ahead(book.now);
        book.now.tick(many);
        return acted(book.now.tally[TIME]);
    }

    public int rate(int rate) {
        int was = book.now.tally[RATE];
        if (rate < plan.least || rate > plan.most || rate == was) {
            return refused();
        }
        book.acts.ahead(book.now);
        book.now.tally[RATE] = rate;
        return acted(was);
    }

    public int undo() {
        return book.acts.back(book.now) ? book.acts.many : NONE;
    }

    public int then(int ticks, int what) throws NoSuchElementException, IllegalArgumentException {
        mustBe(what >= 0 && what <= 5);
        mustFit(ticks >= 0 && ticks <= FAR);
        trial.become(book.now);
        trial.tick(ticks);
        switch (what) {
            case 0:
                return trial.used();
            case 1:
                return trial.mergedPages(0, plan.pages);
            case 2:
                return trial.waiting.size();
            case 3:
                return trial.tally[RATE];
            case 4:
                return trial.tally[WORK];
            default:
                return trial.tally[ROUNDS];
        }
    }

    public int quiet() {
        trial.become(book.now);
        int last = 0;
        for (int t = 1; t <= FAR; t++) {
            if (trial.tick(1) > 0) {
                last = t;
            }
        }
        return last;
    }

    public int merges(int guest, int page) throws NoSuchElementException {
        int p = placeOf(guest, page);
        trial.become(book.now);
        for (int n = 0; n <= FAR_SCANS; n++) {
            if (trial.isMerged(p)) {
                return n;
            }
            trial.scanNext();
        }
        return NONE;
    }

    public int ideal(int what) throws NoSuchElementException {
        switch (what) {
            case 0:
                return book.now.fewest();
            case 1:
                return book.now.used() - book.now.fewest();
            case 2:
                return book.now.risk();
            default:
                throw new NoSuchElementException();
        }
    }

    public int probe(int guest, int page, int cells, int ticks)
            throws NoSuchElementException, IllegalArgumentException {
        int p = placeOf(guest, page);
        mustFit(cells >= 0 && cells <= 65535 && ticks >= 0 && ticks <= HALF_FAR);
        trial.become(book.now);
        if (trial.put(p, cells) == NONE) {
            return NONE;
        }
        trial.tick(ticks);
        int f = trial.lies.in[p];
        return f == NONE ? 0 : trial.lies.sizeOf(f) - 1;
    }

    public int toAdvise(int ticks, int what) throws NoSuchElementException, IllegalArgumentException {
        mustBe(what == 0 || what == 1);
        mustFit(ticks >= 0 && ticks <= HALF_FAR);
        int best = NONE;
        int fewest = NONE;
        for (int g = 0; g < plan.guests; g++) {
            trial.become(book.now);
            trial.adviseAll(plan.first[g], plan.first[g] + plan.pagesOf[g] - 1);
            trial.tick(ticks);
            int used = trial.used();
            if (best == NONE || used < fewest) {
                best = g;
                fewest = used;
            }
        }
        return what == 0 ? best : fewest;
    }

    public int toRate(int ticks, int what) throws NoSuchElementException, IllegalArgumentException {
        mustBe(what == 0 || what == 1);
        mustFit(ticks >= 1 && ticks <= MOST_TICKS);
        int best = NONE;
        int fewest = NONE;
        int least = NONE;
        for (int r = plan.least; r <= plan.most; r++) {
            trial.become(book.now);
            trial.tally[RATE] = r;
            trial.tick(ticks);
            int used = trial.used();
            int work = trial.tally[WORK];
            if (best == NONE || used < fewest || used == fewest && work < least) {
                best = r;
                fewest = used;
                least = work;
            }
        }
        return what == 0 ? best : fewest;
    }

    public int note(int ticks, int used) {
        if (book.noted >= NOTES || ticks < 0 || ticks > MOST_TICKS || used < 0 || used > MANY) {
            book.status[2]++;
            return NONE;
        }
        book.notedTicks[book.noted] = ticks;
        book.notedUsed[book.noted] = used;
        book.noted++;
        return book.noted;
    }

    public int guess(int guest, int page, int cell, int what) throws NoSuchElementException {
        int p = placeOf(guest, page);
        mustBeCell(cell);
        mustBe(what >= 0 && what <= 2);
        int far = book.lastNoted();
        if (what == 2) {
            return fits(p, cell, NONE, far) ? 1 : 0;
        }
        int is = cellOf(book.now.cellsAt(p), cell);
        int many = 0;
        for (int number = 0; number <= TOP; number++) {
            if (number == is || !fits(p, cell, number, far)) {
                continue;
            }
            if (what == 1) {
                return number;
            }
            many++;
        }
        return what == 0 ? many : NONE;
    }

    public int look(int guest, int page, int cell, int what) throws NoSuchElementException {
        int p = placeOf(guest, page);
        mustBeCell(cell);
        mustBe(what == 0 || what == 1);
        int is = cellOf(book.now.cellsAt(p), cell);
        Arrays.fill(seen, 0L);
        for (int number = 0; number <= TOP; number++) {
            if (number != is && fits(p, cell, number, MOST_TICKS)) {
                for (int t = 1; t <= MOST_TICKS; t++) {
                    seen[t] |= 1L << series[t];
                }
            }
        }
        int best = NONE;
        int most = 0;
        for (int t = 1; t <= MOST_TICKS; t++) {
            int unlike = Long.bitCount(seen[t]);
            if (unlike > most) {
                best = t;
                most = unlike;
            }
        }
        return what == 0 ? best : most;
    }

    public void forget() {
        book.noted = 0;
    }

    public int dirt(int guest, int page, int ticks, int tenths, int used)
            throws NoSuchElementException, IllegalArgumentException {
        int p = placeOf(guest, page);
        mustFit(ticks >= 1 && ticks <= 4 && tenths >= 0 && tenths <= 10);
        int likely = 0;
        for (int way = 0; way < 1 << ticks; way++) {
            int weight = 1;
            for (int t = 0; t < ticks; t++) {
                weight *= (way >> t & 1) == 1 ? tenths : 10 - tenths;
            }
            if (weight > 0 && usedBy(p, ticks, way) <= used) {
                likely += weight;
            }
        }
        return likely;
    }

    public int years(int seed, int n, int what) throws NoSuchElementException, IllegalArgumentException {
        mustBe(what >= 0 && what <= 2);
        mustFit(n >= 0 && n <= FAR);
        trial.become(book.now);
        draws.seed = seed;
        int laid = 0;
        int failed = 0;
        for (int t = 0; t < n; t++) {
            if (befallsByChance() == NONE) {
                failed++;
            }
            laid += trial.tick(1);
        }
        if (what == 1) {
            return trial.used();
        }
        return what == 0 ? laid : failed;
    }

    public void image() {
        kept.become(book);
        imaged = true;
    }

    public boolean restore() {
        if (!imaged) {
            return false;
        }
        book.become(kept);
        return true;
    }

    private static void mustBe(boolean there) {
        if (!there) {
            throw new NoSuchElementException();
        }
    }

    private static void mustFit(boolean fitting) {
        if (!fitting) {
            throw new IllegalArgumentException();
        }
    }

    private static void mustBeCell(int cell) {
        mustBe(cell >= 0 && cell < CELLS);
    }

    private int placeOf(int guest, int page) {
        int p = plan.placeAt(guest, page);
        mustBe(p != NONE);
        return p;
    }

    /** A CELL of four. */
    private static int cellOf(int cells, int cell) {
        return cells >> HIGHEST - 4 * cell & TOP;
    }

    private int refused() {
        book.status[1]++;
        return NONE;
    }

    /** Keeps an ACT that was done; one that was not has changed nothing. */
    private int acted(int answer) {
        if (answer == NONE) {
            return refused();
        }
        book.acts.stand();
        return answer;
    }

    private void openText(int n) {
        mustFit(n >= 0 && n <= text.fed);
        text.begin(n);
    }

    private void closeText() {
        text.fed = 0;
        faultAt = NONE;
        if (text.fault != 0) {
            faultAt = text.place;
            book.status[0]++;
        }
    }

    /** Does the order that was read last; NONE: it is refused. */
    private int obey() {
        State now = book.now;
        switch (order.what) {
            case Order.WRITE:
                return now.putCell(order.p, order.number, order.value);
            case Order.COPY:
                return now.put(order.p, now.cellsAt(order.q));
            case Order.DROP:
                return now.dropPage(order.p);
            case Order.SCAN:
                return now.scanMany(order.number);
            case Order.TICK:
                return now.hasTimeFor(order.number) ? now.tick(order.number) : NONE;
            default:
                return NONE;
        }
    }

    /**
     * Whether all that is NOTED comes so, were a CELL WRITTEN now (number NONE: without).
     * The trial goes on for so many TICKS; the series has its FRAMES that are used.
     */
    private boolean fits(int p, int cell, int number, int far) {
        trial.become(book.now);
        if (number != NONE && trial.putCell(p, cell, number) == NONE) {
            return false;
        }
        for (int t = 0; t <= far && t < series.length; t++) {
            if (t > 0) {
                trial.tick(1);
            }
            series[t] = trial.used();
        }
        for (int i = 0; i < book.noted; i++) {
            if (series[book.notedTicks[i]] != book.notedUsed[i]) {
                return false;
            }
        }
        return true;
    }

    /** FRAMES used behind TICKS ahead of which a PAGE is WRITTEN where the way has a bit. */
    private int usedBy(int p, int ticks, int way) {
        trial.become(book.now);
        for (int t = 0; t < ticks; t++) {
            if ((way >> t & 1) == 1) {
                trial.putCell(p, 0, cellOf(trial.cellsAt(p), 0) + 1 & TOP);
            }
            trial.tick(1);
        }
        return trial.used();
    }

    /** What is drawn ahead of a TICK of a YEAR; NONE: it was to be WRITTEN and couldn't be. */
    private int befallsByChance() {
        int kind = draws.drawOf(4);
        if (kind == 3 || plan.pages == 0) {
            return 0;
        }
        int p = draws.drawOf(plan.pages);
        if (kind == 0) {
            int cell = draws.drawOf(CELLS);
            return trial.putCell(p, cell, draws.drawOf(4));
        }
        if (kind == 1) {
            return trial.put(p, trial.cellsAt(draws.drawOf(plan.pages)));
        }
        trial.dropPage(p);
        return 0;
    }

    /** The numbers that a seed draws. */
    private static final class Draws {
        int seed = 0;

        int drawOf(int n) {
            seed = seed * 1103515245 + 12345;
            return n > 0 ? (seed >>> 16 & 32767) % n : 0;
        }
    }

    /** What a MACHINE's text tells and no ACT changes. A PAGE is its place among all. */
    private static final class Plan {
        int frames;
        int share;
        int least;
        int most;
        boolean zero;
        boolean smart;
        int guests;
        int pages;
        final int[] pagesOf = new int[GUESTS];
        final int[] realm = new int[GUESTS];
        final int[] first = new int[GUESTS];
        final int[] guestOf = new int[MANY];

        Plan() {
            clear();
        }

        void clear() {
            frames = 24;
            share = 4;
            least = 1;
            most = 8;
            zero = false;
            smart = false;
            guests = 0;
            pages = 0;
        }

        void become(Plan other) {
            frames = other.frames;
            share = other.share;
            least = other.least;
            most = other.most;
            zero = other.zero;
            smart = other.smart;
            guests = other.guests;
            pages = other.pages;
            System.arraycopy(other.pagesOf, 0, pagesOf, 0, GUESTS);
            System.arraycopy(other.realm, 0, realm, 0, GUESTS);
            System.arraycopy(other.first, 0, first, 0, GUESTS);
            System.arraycopy(other.guestOf, 0, guestOf, 0, MANY);
        }

        void addGuest(int many, int itsRealm) {
            if (guests >= GUESTS || pages + many > MANY) {
                return;
            }
            pagesOf[guests] = many;
            realm[guests] = itsRealm;
            first[guests] = pages;
            for (int i = 0; i < many; i++) {
                guestOf[pages + i] = guests;
            }
            pages += many;
            guests++;
        }

        int placeAt(int guest, int page) {
            if (guest < 0 || guest >= guests || page < 0 || page >= pagesOf[guest]) {
                return NONE;
            }
            return first[guest] + page;
        }

        /** 12 by its GUEST, and the PAGE. */
        int labelOf(int p) {
            if (p < 0 || p >= pages) {
                return NONE;
            }
            int g = guestOf[p];
            return PAGES * g + p - first[g];
        }

        int realmOf(int p) {
            return p >= 0 && p < pages ? realm[guestOf[p]] : 0;
        }
    }

    /** The tape, and the TOKENS of a text on it with the first FAULT among them. */
    private static final class Text {
        static final int END = 0;
        static final int WORD = 1;
        static final int NUMBER = 2;
        static final int SIGN = 3;
        static final int OTHER = 4;

        final byte[] tape = new byte[LONGEST];
        int fed = 0;
        int length = 0;
        int at = 0;
        int behind = 0;
        int kind = END;
        int fault = 0;
        int place = NONE;

        void append(int four) {
            if (fed + 4 > LONGEST) {
                return;
            }
            for (int shift = 24; shift >= 0; shift -= 8) {
                tape[fed] = (byte) (four >> shift);
                fed++;
            }
        }

        void begin(int n) {
            length = n < LONGEST ? n : LONGEST;
            at = 0;
            behind = 0;
            kind = END;
            fault = 0;
            place = NONE;
        }

        private static int kindOf(int sign) {
            if (sign >= 'a' && sign <= 'z') {
                return WORD;
            }
            if (sign >= '0' && sign <= '9') {
                return NUMBER;
            }
            return sign == ';' ? SIGN : OTHER;
        }

        void step() {
            int i = behind;
            while (i < length && (tape[i] == 32 || tape[i] == 10)) {
                i++;
            }
            at = i;
            kind = END;
            if (i < length) {
                kind = kindOf(tape[i]);
                i++;
                while (i < length && (kind == WORD || kind == NUMBER) && kindOf(tape[i]) == kind) {
                    i++;
                }
            }
            behind = i;
        }

        /** Of one TOKEN's FAULTS the first that is told stays: tell the least first. */
        void fail(int which) {
            if (fault == 0) {
                fault = which;
                place = at;
            }
        }

        boolean atClause() {
            if (fault != 0) {
                return false;
            }
            step();
            return kind != END;
        }

        boolean isWord(String word) {
            if (kind != WORD || behind - at != word.length()) {
                return false;
            }
            for (int i = 0; i < word.length(); i++) {
                if (tape[at + i] != word.charAt(i)) {
                    return false;
                }
            }
            return true;
        }

        /** The NUMBER that comes next, 0 behind a FAULT. */
        int numberIn(int least, int most) {
            if (fault != 0) {
                return 0;
            }
            step();
            if (kind != NUMBER) {
                fail(1);
                return 0;
            }
            int number = behind - at > 3 ? NONE : 0;
            for (int i = at; number != NONE && i < behind; i++) {
                number = 10 * number + tape[i] - '0';
            }
            if (number < least || number > most) {
                fail(2);
                return 0;
            }
            return number;
        }

        boolean numberIsNext() {
            if (fault != 0) {
                return false;
            }
            int here = behind;
            step();
            behind = here;
            return kind == NUMBER;
        }

        void clauseEnds() {
            if (fault != 0) {
                return;
            }
            step();
            if (kind != SIGN) {
                fail(1);
            }
        }

        /** GUEST and PAGE as they come next: the PAGE, NONE behind a FAULT. */
        int pageIn(Plan plan) {
            int g = numberIn(0, GUESTS - 1);
            if (g >= plan.guests) {
                fail(3);
            }
            int i = numberIn(0, PAGES - 1);
            int p = plan.placeAt(g, i);
            if (p == NONE) {
                fail(3);
            }
            return fault == 0 ? p : NONE;
        }
    }

    /** Makes a plan and the state at its beginning out of a MACHINE's text. */
    private static final class Maker {
        static final int TOLD_FRAMES = 1;
        static final int TOLD_SHARE = 2;
        static final int TOLD_RATE = 4;
        static final int TOLD_ZERO = 8;
        static final int TOLD_SMART = 16;

        final Text text;
        final Plan plan;
        final State state;
        int told = 0;
        int placed = 0;

        Maker(Text text, Plan plan, State state) {
            this.text = text;
            this.plan = plan;
            this.state = state;
        }

        void makeAll() {
            plan.clear();
            state.clear();
            told = 0;
            placed = 0;
            for (int n = 0; n < LONGEST && text.atClause(); n++) {
                makeClause();
            }
        }

        private void makeClause() {
            if (text.isWord("frames")) {
                if (placed > 0) {
                    text.fail(4);
                }
                tellOnce(TOLD_FRAMES);
                plan.frames = text.numberIn(1, MANY);
            } else if (text.isWord("share")) {
                tellOnce(TOLD_SHARE);
                plan.share = text.numberIn(2, 8);
            } else if (text.isWord("rate")) {
                tellOnce(TOLD_RATE);
                plan.least = text.numberIn(1, 16);
                plan.most = text.numberIn(plan.least, 16);
            } else if (text.isWord("zero")) {
                tellOnce(TOLD_ZERO);
                plan.zero = true;
            } else if (text.isWord("smart")) {
                tellOnce(TOLD_SMART);
                plan.smart = true;
            } else if (text.isWord("guest")) {
                makeGuest();
            } else if (text.isWord("page")) {
                makePage();
            } else if (text.isWord("advise")) {
                makeAdvised();
            } else {
                text.fail(1);
            }
            text.clauseEnds();
        }

        private void tellOnce(int what) {
            if ((told & what) != 0) {
                text.fail(5);
            }
            told |= what;
        }

        private void makeGuest() {
            if (plan.guests >= GUESTS) {
                text.fail(2);
            }
            int many = text.numberIn(1, PAGES);
            int realm = text.numberIsNext() ? text.numberIn(0, REALMS - 1) : 0;
            if (text.fault == 0) {
                plan.addGuest(many, realm);
            }
        }

        private void makePage() {
            if (placed >= plan.frames) {
                text.fail(2);
            }
            int p = text.pageIn(plan);
            if (p != NONE && state.lies.in[p] != NONE) {
                text.fail(4);
            }
            int cells = 0;
            for (int i = 0; i < CELLS; i++) {
                cells = cells << 4 | text.numberIn(0, TOP);
            }
            if (text.fault == 0 && p != NONE && placed < MANY) {
                state.lies.add(placed, p);
                state.cells[placed] = cells;
                placed++;
            }
        }

        private void makeAdvised() {
            int first = text.pageIn(plan);
            int to = text.numberIn(0, PAGES - 1);
            if (first == NONE || text.fault != 0) {
                return;
            }
            int last = plan.placeAt(plan.guestOf[first], to);
            if (last == NONE || last < first) {
                text.fail(3);
                return;
            }
            state.adviseAll(first, last);
        }
    }

    /** The orders of a text, one by one. */
    private static final class Order {
        static final int WRITE = 0;
        static final int COPY = 1;
        static final int DROP = 2;
        static final int SCAN = 3;
        static final int TICK = 4;

        final Text text;
        final Plan plan;
        int what = NONE;
        int p = NONE;
        int q = NONE;
        int number = 0;
        int value = 0;

        Order(Text text, Plan plan) {
            this.text = text;
            this.plan = plan;
        }

        /** How many there are up to the end, or to a FAULT. */
        int countAll() {
            int many = 0;
            while (many < LONGEST && isNext()) {
                many++;
            }
            return many;
        }

        /** Reads the next one: whether there is one, without a FAULT. */
        boolean isNext() {
            if (!text.atClause()) {
                return false;
            }
            if (text.isWord("write")) {
                what = WRITE;
                p = text.pageIn(plan);
                number = text.numberIn(0, CELLS - 1);
                value = text.numberIn(0, TOP);
            } else if (text.isWord("copy")) {
                what = COPY;
                p = text.pageIn(plan);
                q = text.pageIn(plan);
            } else if (text.isWord("drop")) {
                what = DROP;
                p = text.pageIn(plan);
            } else if (text.isWord("scan")) {
                what = SCAN;
                number = text.numberIn(1, MOST_SCANS);
            } else if (text.isWord("tick")) {
                what = TICK;
                number = text.numberIn(1, MOST_TICKS);
            } else {
                text.fail(1);
            }
            text.clauseEnds();
            return text.fault == 0;
        }
    }

    /** Rows of some that came one behind the other, each in one row at most. */
    private static final class Rows {
        final int[] in = new int[MANY];
        final int[] next = new int[MANY];
        final int[] first = new int[MANY];

        Rows() {
            clear();
        }

        void clear() {
            Arrays.fill(in, NONE);
            Arrays.fill(next, NONE);
            Arrays.fill(first, NONE);
        }

        void become(Rows other) {
            System.arraycopy(other.in, 0, in, 0, MANY);
            System.arraycopy(other.next, 0, next, 0, MANY);
            System.arraycopy(other.first, 0, first, 0, MANY);
        }

        void add(int row, int one) {
            if (row < 0 || row >= MANY || one < 0 || one >= MANY) {
                return;
            }
            int last = NONE;
            int x = first[row];
            for (int n = 0; n < MANY && x != NONE; n++) {
                last = x;
                x = next[x];
            }
            if (last == NONE) {
                first[row] = one;
            } else {
                next[last] = one;
            }
            next[one] = NONE;
            in[one] = row;
        }

        void remove(int one) {
            if (one < 0 || one >= MANY || in[one] == NONE) {
                return;
            }
            int row = in[one];
            int ahead = NONE;
            int x = first[row];
            for (int n = 0; n < MANY && x != one && x != NONE; n++) {
                ahead = x;
                x = next[x];
            }
            if (ahead == NONE) {
                first[row] = next[one];
            } else {
                next[ahead] = next[one];
            }
            next[one] = NONE;
            in[one] = NONE;
        }

        int sizeOf(int row) {
            if (row < 0 || row >= MANY) {
                return 0;
            }
            int many = 0;
            int x = first[row];
            while (many < MANY && x != NONE) {
                many++;
                x = next[x];
            }
            return many;
        }

        /** The i-th of a row; NONE: there is none. */
        int nth(int row, int i) {
            if (row < 0 || row >= MANY || i < 0 || i >= MANY) {
                return NONE;
            }
            int x = first[row];
            for (int n = 0; n < i && x != NONE; n++) {
                x = next[x];
            }
            return x;
        }
    }

    /**
     * A tree of each REALM. Knots hang in slots: 2 k and 2 k + 1 are to the left and right
     * of knot k, those behind are the roots.
     */
    private static final class Tree {
        static final int ROOT = 2 * MANY;
        static final int SLOTS = ROOT + REALMS;

        final int[] hung = new int[SLOTS];

        Tree() {
            clear();
        }

        void clear() {
            Arrays.fill(hung, NONE);
        }

        void become(Tree other) {
            System.arraycopy(other.hung, 0, hung, 0, SLOTS);
        }

        int size() {
            int many = 0;
            for (int slot = 0; slot < SLOTS; slot++) {
                if (hung[slot] != NONE) {
                    many++;
                }
            }
            return many;
        }

        /** Where a knot hangs; NONE: nowhere. */
        int slotOf(int k) {
            for (int slot = 0; slot < SLOTS; slot++) {
                if (hung[slot] == k) {
                    return slot;
                }
            }
            return NONE;
        }

        void leave(int k) {
            int slot = slotOf(k);
            if (slot == NONE || k < 0 || k >= MANY) {
                return;
            }
            int left = hung[2 * k];
            int right = hung[2 * k + 1];
            if (left == NONE || right == NONE) {
                hung[slot] = left == NONE ? right : left;
            } else {
                int from = 2 * k + 1;
                int heir = right;
                for (int n = 0; n < MANY && hung[2 * heir] != NONE; n++) {
                    from = 2 * heir;
                    heir = hung[from];
                }
                hung[from] = hung[2 * heir + 1];
                hung[2 * heir] = hung[2 * k];
                hung[2 * heir + 1] = hung[2 * k + 1];
                hung[slot] = heir;
            }
            hung[2 * k] = NONE;
            hung[2 * k + 1] = NONE;
        }

        /** How many knots are above one. */
        int above(int k) {
            int many = 0;
            int slot = slotOf(k);
            while (many < MANY && slot != NONE && slot < ROOT) {
                many++;
                slot = slotOf(slot / 2);
            }
            return many;
        }

        private int leftmost(int slot) {
            if (slot < 0 || slot >= SLOTS) {
                return NONE;
            }
            int found = NONE;
            int k = hung[slot];
            for (int n = 0; n < MANY && k != NONE; n++) {
                found = k;
                k = hung[2 * k];
            }
            return found;
        }

        /** The knot next to the right of all; NONE: it was the last one. */
        private int after(int k) {
            int right = leftmost(2 * k + 1);
            if (right != NONE) {
                return right;
            }
            int slot = slotOf(k);
            for (int n = 0; n < MANY && slot != NONE && slot < ROOT; n++) {
                if (slot % 2 == 0) {
                    return slot / 2;
                }
                slot = slotOf(slot / 2);
            }
            return NONE;
        }

        int sizeOf(int realm) {
            int many = 0;
            int k = leftmost(ROOT + realm);
            while (many < MANY && k != NONE) {
                many++;
                k = after(k);
            }
            return many;
        }

        /** The i-th knot from the left; NONE: there is none. */
        int nth(int realm, int i) {
            if (i < 0 || i >= MANY) {
                return NONE;
            }
            int k = leftmost(ROOT + realm);
            for (int n = 0; n < i && k != NONE; n++) {
                k = after(k);
            }
            return k;
        }
    }

    /** All that ACTS change. */
    private static final class State {
        final Plan plan;
        /** PAGES in FRAMES, FRAMES in the CHAINS of STABLE KNOTS. */
        final Rows lies = new Rows();
        final Rows chains = new Rows();
        final Tree stable = new Tree();
        final Tree waiting = new Tree();
        /** Of each FRAME its four CELLS, as four times four bits. */
        final int[] cells = new int[MANY];
        /** Of each PAGE: 1, it is ADVISED; what befell it last, its SUM, AGE, REST. */
        final int[] advised = new int[MANY];
        final int[] befell = new int[MANY];
        final int[] sum = new int[MANY];
        final int[] age = new int[MANY];
        final int[] rest = new int[MANY];
        final int[] tally = new int[TALLIES];

        State(Plan plan) {
            this.plan = plan;
            clear();
        }

        void clear() {
            lies.clear();
            chains.clear();
            stable.clear();
            waiting.clear();
            Arrays.fill(cells, 0);
            Arrays.fill(advised, 0);
            Arrays.fill(befell, 0);
            Arrays.fill(sum, NONE);
            Arrays.fill(age, 0);
            Arrays.fill(rest, 0);
            Arrays.fill(tally, 0);
            tally[RATE] = plan.least;
        }

        void become(State other) {
            lies.become(other.lies);
            chains.become(other.chains);
            stable.become(other.stable);
            waiting.become(other.waiting);
            System.arraycopy(other.cells, 0, cells, 0, MANY);
            System.arraycopy(other.advised, 0, advised, 0, MANY);
            System.arraycopy(other.befell, 0, befell, 0, MANY);
            System.arraycopy(other.sum, 0, sum, 0, MANY);
            System.arraycopy(other.age, 0, age, 0, MANY);
            System.arraycopy(other.rest, 0, rest, 0, MANY);
            System.arraycopy(other.tally, 0, tally, 0, TALLIES);
        }

        int used() {
            int many = 0;
            for (int f = 0; f < plan.frames; f++) {
                if (lies.first[f] != NONE) {
                    many++;
                }
            }
            return many;
        }

        int mergedFrames() {
            int many = 0;
            for (int f = 0; f < plan.frames; f++) {
                if (chains.in[f] != NONE) {
                    many++;
                }
            }
            return many;
        }

        int mergedPages(int from, int behind) {
            int many = 0;
            for (int p = from; p < behind; p++) {
                if (isMerged(p)) {
                    many++;
                }
            }
            return many;
        }

        int absentPages(int from, int behind) {
            int many = 0;
            for (int p = from; p < behind; p++) {
                if (lies.in[p] == NONE) {
                    many++;
                }
            }
            return many;
        }

        int advisedPages(int from, int behind) {
            int many = 0;
            for (int p = from; p < behind; p++) {
                if (advised[p] == 1) {
                    many++;
                }
            }
            return many;
        }

        /** In how many FRAMES some PAGES lie. */
        int framesOf(int from, int behind) {
            long frames = 0L;
            for (int p = from; p < behind; p++) {
                if (lies.in[p] != NONE) {
                    frames |= 1L << lies.in[p];
                }
            }
            return Long.bitCount(frames);
        }

        boolean isMerged(int p) {
            int f = lies.in[p];
            return f != NONE && chains.in[f] != NONE;
        }

        int cellsAt(int p) {
            int f = lies.in[p];
            return f == NONE ? 0 : cells[f];
        }

        private int freeFrame() {
            for (int f = 0; f < plan.frames; f++) {
                if (lies.first[f] == NONE) {
                    return f;
                }
            }
            return NONE;
        }

        /** A PAGE is WRITTEN: what write() answers. */
        int put(int p, int with) {
            int how = makeOwn(p);
            int f = lies.in[p];
            if (how != NONE && f != NONE) {
                cells[f] = with;
            }
            return how;
        }

        int putCell(int p, int cell, int number) {
            int shift = HIGHEST - 4 * cell;
            return put(p, cellsAt(p) & ~(TOP << shift) | number << shift);
        }

        /** Lets a PAGE lie in an OWN FRAME with its CELLS: what write() answers. */
        private int makeOwn(int p) {
            int f = lies.in[p];
            if (f != NONE && chains.in[f] == NONE) {
                return 0;
            }
            if (f != NONE && lies.sizeOf(f) == 1) {
                leaveKnot(f);
                return 3;
            }
            int to = freeFrame();
            if (to == NONE) {
                return NONE;
            }
            cells[to] = cellsAt(p);
            lies.remove(p);
            lies.add(to, p);
            if (f == NONE) {
                return 1;
            }
            tally[SPLITS]++;
            return 2;
        }

        private void leaveKnot(int f) {
            int k = chains.in[f];
            if (k == NONE) {
                return;
            }
            chains.remove(f);
            if (chains.first[k] == NONE) {
                stable.leave(k);
            }
        }

        /** A PAGE is DROPPED: whether a FRAME is free by it (1); NONE: it is ABSENT. */
        int dropPage(int p) {
            int f = lies.in[p];
            if (f == NONE) {
                return NONE;
            }
            lies.remove(p);
            if (lies.first[f] != NONE) {
                return 0;
            }
            leaveKnot(f);
            return 1;
        }

        /** PAGES are ADVISED: for how many that is new. */
        int adviseAll(int first, int last) {
            int many = 0;
            for (int p = first; p <= last; p++) {
                if (advised[p] == 0) {
                    advised[p] = 1;
                    many++;
                }
            }
            return many;
        }

        /** PAGES are ADVISED no more, up to one that can't be SPLIT off: for how many that is new. */
        int adviseNoMore(int first, int last) {
            int many = 0;
            for (int p = first; p <= last; p++) {
                if (advised[p] == 0) {
                    continue;
                }
                if (isMerged(p) && makeOwn(p) == NONE) {
                    return many;
                }
                waiting.leave(p);
                advised[p] = 0;
                many++;
            }
            return many;
        }

        int scanMany(int many) {
            int laid = 0;
            for (int n = 0; n < many; n++) {
                laid += scanNext();
            }
            return laid;
        }

        boolean hasTimeFor(int ticks) {
            return tally[TIME] + ticks <= LAST_TIME;
        }

        /** TICKS go by: how many are ZEROED, JOINED, PAIRED by these. */
        int tick(int many) {
            int laid = 0;
            for (int n = 0; n < many; n++) {
                int scans = tally[RATE];
                for (int i = 0; i < scans; i++) {
                    laid += scanNext();
                }
                tally[TIME]++;
            }
            return laid;
        }

        /** A SCAN: whether a PAGE is ZEROED, JOINED, PAIRED by it (1). */
        int scanNext() {
            int p = advisedFrom(tally[CURSOR]);
            if (p == NONE) {
                p = advisedFrom(0);
                if (p == NONE) {
                    return 0;
                }
                endRound();
            }
            tally[CURSOR] = p + 1;
            tally[SCANS]++;
            tally[LOT]++;
            int what = befall(p);
            befell[p] = what;
            if (what != RESTS) {
                age[p] = what == HIDDEN || what == WAITS ? age[p] + 1 : 0;
                rest[p] = restAt(age[p]);
            }
            if (what != ZEROED && what != JOINED && what != PAIRED) {
                return 0;
            }
            tally[what == ZEROED ? ZEROES : what == JOINED ? JOINS : PAIRS]++;
            tally[YIELD]++;
            return 1;
        }

        private int advisedFrom(int from) {
            for (int p = from; p < plan.pages; p++) {
                if (advised[p] == 1) {
                    return p;
                }
            }
            return NONE;
        }

        private void endRound() {
            waiting.clear();
            int rate = tally[RATE];
            if (4 * tally[YIELD] >= tally[LOT]) {
                tally[RATE] = 2 * rate < plan.most ? 2 * rate : plan.most;
            } else if (tally[YIELD] == 0) {
                tally[RATE] = rate / 2 > plan.least ? rate / 2 : plan.least;
            }
            tally[YIELD] = 0;
            tally[LOT] = 0;
            tally[CURSOR] = 0;
            tally[ROUNDS]++;
        }

        private static int restAt(int age) {
            if (age < 5) {
                return age < 3 ? 0 : 1;
            }
            return age < 8 ? 2 : 4;
        }

        private int befall(int p) {
            int f = lies.in[p];
            if (f == NONE) {
                sum[p] = NONE;
                return ABSENT;
            }
            if (chains.in[f] != NONE) {
                return MERGED;
            }
            if (plan.smart && rest[p] > 0) {
                rest[p]--;
                return RESTS;
            }
            int with = cells[f];
            if (plan.zero && with == 0) {
                lies.remove(p);
                sum[p] = NONE;
                return ZEROED;
            }
            int slot = seek(true, plan.realmOf(p), with);
            int to = roomIn(stable.hung[slot]);
            if (to != NONE) {
                lies.remove(p);
                lies.add(to, p);
                return JOINED;
            }
            int its = sumOf(with);
            if (sum[p] != its) {
                sum[p] = its;
                return BUSY;
            }
            int end = seek(false, plan.realmOf(p), with);
            int other = waiting.hung[end];
            if (other == NONE) {
                waiting.hung[end] = p;
                return WAITS;
            }
            if (lies.in[other] == NONE) {
                return HIDDEN;
            }
            pairUp(p, other, slot);
            return PAIRED;
        }

        /**
         * The slot where the search for CELLS ends: one that is empty, that of the knot that
         * it has FOUND, or that of a CANDIDATE that is ABSENT.
         */
        private int seek(boolean isStable, int realm, int with) {
            int[] hung = isStable ? stable.hung : waiting.hung;
            int slot = Tree.ROOT + realm;
            int k = hung[slot];
            for (int n = 0; n < MANY && k != NONE; n++) {
                int f = isStable ? chains.first[k] : lies.in[k];
                int more = f == NONE ? 0 : compared(with, cells[f]);
                if (more == 0) {
                    return slot;
                }
                slot = more < 0 ? 2 * k : 2 * k + 1;
                k = hung[slot];
            }
            return slot;
        }

        private int compared(int with, int others) {
            for (int shift = HIGHEST; shift >= 0; shift -= 4) {
                tally[WORK]++;
                int more = (with >> shift & TOP) - (others >> shift & TOP);
                if (more != 0) {
                    return more;
                }
            }
            return 0;
        }

        private static int sumOf(int with) {
            return (343 * cellOf(with, 0) + 49 * cellOf(with, 1) + 7 * cellOf(with, 2) + cellOf(with, 3)) % 64;
        }

        /** Of a knot's FRAMES with room the fullest, of like ones the first. */
        private int roomIn(int k) {
            if (k == NONE) {
                return NONE;
            }
            int best = NONE;
            int most = 0;
            int f = chains.first[k];
            for (int n = 0; n < MANY && f != NONE; n++) {
                int many = lies.sizeOf(f);
                if (many < plan.share && many > most) {
                    best = f;
                    most = many;
                }
                f = chains.next[f];
            }
            return best;
        }

        private void pairUp(int p, int other, int slot) {
            waiting.leave(other);
            age[other] = 0;
            rest[other] = 0;
            int k = stable.hung[slot];
            if (k == NONE) {
                k = freeKnot();
                stable.hung[slot] = k;
            }
            int f = lies.in[other];
            chains.add(k, f);
            lies.remove(p);
            lies.add(f, p);
        }

        /** There is always one, as each knot has a FRAME. */
        private int freeKnot() {
            int k = 0;
            while (k < MANY - 1 && chains.first[k] != NONE) {
                k++;
            }
            return k;
        }

        /** IDEAL. */
        int fewest() {
            int many = 0;
            for (int p = 0; p < plan.pages; p++) {
                if (lies.in[p] == NONE) {
                    continue;
                }
                if (advised[p] == 0) {
                    many++;
                } else if (!(plan.zero && cellsAt(p) == 0) && plan.share > 0 && likeAhead(p) % plan.share == 0) {
                    many++;
                }
            }
            return many;
        }

        /** How many ADVISED PAGES of the REALM that lie in FRAMES are LIKE one and ahead of it. */
        private int likeAhead(int p) {
            int many = 0;
            for (int q = 0; q < p; q++) {
                if (advised[q] == 1 && lies.in[q] != NONE && plan.realmOf(q) == plan.realmOf(p)
                        && cellsAt(q) == cellsAt(p)) {
                    many++;
                }
            }
            return many;
        }

        /** RISK: each ABSENT PAGE, and each that is not the last one of its FRAME, may take a FRAME. */
        int risk() {
            int used = used();
            int free = plan.frames - used;
            int takers = plan.pages - used;
            return takers > free ? free + 1 : NONE;
        }
    }

    /** The states ahead of the latest ACTS; behind these one is spare. */
    private static final class Acts {
        final Plan plan;
        final State[] states = new State[ACTS + 1];
        int oldest = 0;
        int many = 0;

        Acts(Plan plan) {
            this.plan = plan;
        }

        void clear() {
            oldest = 0;
            many = 0;
        }

        private State stateAt(int i) {
            int at = (oldest + i) % (ACTS + 1);
            if (states[at] == null) {
                states[at] = new State(plan);
            }
            return states[at];
        }

        /** Keeps the state ahead of an ACT as the spare one. */
        void ahead(State now) {
            stateAt(many).become(now);
        }

        /** The ACT is done: the spare one counts. */
        void stand() {
            if (many < ACTS) {
                many++;
            } else {
                oldest = (oldest + 1) % (ACTS + 1);
            }
        }

        /** The ACT is not done: all is as the spare one. */
        void giveUp(State now) {
            now.become(stateAt(many));
        }

        boolean back(State now) {
            if (many == 0) {
                return false;
            }
            many--;
            now.become(stateAt(many));
            return true;
        }

        void become(Acts other) {
            oldest = 0;
            many = other.many;
            for (int i = 0; i < many; i++) {
                stateAt(i).become(other.stateAt(i));
            }
        }
    }

    /** All that AN IMAGE keeps. */
    private static final class Book {
        final State now;
        final Acts acts;
        final int[] notedTicks = new int[NOTES];
        final int[] notedUsed = new int[NOTES];
        final int[] status = new int[3];
        int noted = 0;

        Book(Plan plan) {
            now = new State(plan);
            acts = new Acts(plan);
        }

        void become(Book other) {
            now.become(other.now);
            acts.become(other.acts);
            System.arraycopy(other.notedTicks, 0, notedTicks, 0, NOTES);
            System.arraycopy(other.notedUsed, 0, notedUsed, 0, NOTES);
            System.arraycopy(other.status, 0, status, 0, 3);
            noted = other.noted;
        }

        /** Behind how many TICKS the last one is that is NOTED. */
        int lastNoted() {
            int last = 0;
            for (int i = 0; i < noted; i++) {
                last = notedTicks[i] > last ? notedTicks[i] : last;
            }
            return last;
        }
    }
}
