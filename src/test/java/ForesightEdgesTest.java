import java.math.BigInteger;

/** Terms 4, promises 22 to 34: each boundary that a sentence names, on both sides. */
public final class ForesightEdgesTest {
    private static final Check CHECK = new Check();
    private static final int LEAST = Integer.MIN_VALUE;
    private static final int MOST = Integer.MAX_VALUE;

    /** Two that are like, another one, an absent one; one scan a tick at first. */
    private static final String FEW = "frames 6;share 2;guest 4;page 0 0 1 0 0 0;page 0 1 1 0 0 0;page 0 2 2 0 0 0;"
            + "advise 0 0 3;";
    /** Two that are unlike by cell 0 alone; one scan a tick always. */
    private static final String TWO = "rate 1 1;guest 2;page 0 0 15 0 0 0;page 0 1 7 0 0 0;advise 0 0 1;";

    public static void main(String[] args) {
        thenOfSixty();
        thenAsActs();
        quietOfSixty();
        mergesAtOnceOrNever();
        mergesOfFourHundred();
        idealByShare();
        idealOfOthers();
        idealOfMorePagesThanFrames();
        riskByWhatIsFree();
        probesAtTheirEdges();
        probesAsActs();
        toAdviseAtItsEdges();
        toAdviseThatGuestAlone();
        toRateAtItsEdges();
        toRateOfLikeOnes();
        notesOfEight();
        notedAtZeroAndTwenty();
        guessesOfSixteen();
        guessesAtTheirEdges();
        lookOfTwenty();
        forgets();
        dirtOfTenths();
        dirtAtItsEdges();
        yearsOfSixty();
        yearsBySeedsThatWrap();
        yearsOfNothing();
        whatCouldNotBe();
        CHECK.end();
    }

    // THEN, behind so many TICKS (0 to 60); NoSuchElementException: another what. IllegalArgumentException (behind that)
    private static void thenOfSixty() {
        GuestPages x = Check.told(FEW);
        x.ticks(3);
        int[] same = {1, 5, 8, 10, 13, 11};
        for (int what = 0; what < 6; what++) {
            int w = what;
            CHECK.asks("none go by, " + what, x, () -> x.then(0, w), x.count(same[what]));
            CHECK.asks("sixty, " + what, x, () -> x.then(60, w), x.then(60, what));
            CHECK.illegal("-1", x, () -> x.then(-1, w));
            CHECK.illegal("61", x, () -> x.then(61, w));
            CHECK.illegal("least", x, () -> x.then(LEAST, w));
            CHECK.illegal("most", x, () -> x.then(MOST, w));
        }
        int[] not = {-1, 6, 7, LEAST, MOST};
        for (int what : not) {
            CHECK.noSuch("what " + what, x, () -> x.then(0, what));
            CHECK.noSuch("what " + what + ", 61", x, () -> x.then(61, what));
            CHECK.noSuch("what " + what + ", -1", x, () -> x.then(-1, what));
        }
        GuestPages y = new GuestPages();
        int[] empty = {0, 0, 0, 1, 0, 0};
        for (int what = 0; what < 6; what++) {
            CHECK.due("without guests, " + what, y.then(60, what), empty[what]);
        }
    }

    private static void thenAsActs() {
        GuestPages x = Check.told("zero;smart;rate 2 7;guest 7;guest 5;page 0 0 1 0 0 0;page 0 1 1 0 0 0;page 0 2 2 0 0 0;"
                + "page 0 3 0 0 0 0;page 1 1 2 0 0 0;page 1 4 1 0 0 0;page 1 2 1 0 0 1;advise 0 0 6;advise 1 0 4;");
        GuestPages y = Check.told("zero;smart;rate 2 7;guest 7;guest 5;page 0 0 1 0 0 0;page 0 1 1 0 0 0;page 0 2 2 0 0 0;"
                + "page 0 3 0 0 0 0;page 1 1 2 0 0 0;page 1 4 1 0 0 0;page 1 2 1 0 0 1;advise 0 0 6;advise 1 0 4;");
        int[] same = {1, 5, 8, 10, 13, 11};
        for (int t = 1; t <= 60; t++) {
            y.ticks(1);
            for (int what = 0; what < 6; what++) {
                CHECK.due("then(" + t + ", " + what + ")", x.then(t, what), y.count(same[what]));
            }
        }
        CHECK.due("nothing has gone by", x.count(12), 0);
    }

    /** One scan a tick, forty-eight pages: the page is zeroed when the cursor comes to it. */
    private static GuestPages zeroAt(int page) {
        GuestPages x = Check.told("zero;rate 1 1;guest12;guest12;guest12;guest12;advise 0 0 11;advise 1 0 11;advise 2 0 11;"
                + "advise 3 0 11;");
        x.write(page / 12, page % 12, 0, 0);
        return x;
    }

    // QUIET: behind how many TICKS (0 to 60) first none is ZEROED, JOINED, PAIRED any more up to the 60th
    private static void quietOfSixty() {
        CHECK.due("without guests", new GuestPages().quiet(), 0);
        for (int page = 0; page < 48; page += 47) {
            GuestPages x = zeroAt(page);
            CHECK.asks("the page's turn", x, x::quiet, page + 1);
        }
        GuestPages x = zeroAt(11);
        x.scan(1);
        CHECK.asks("one less", x, x::quiet, 11);
        x.scan(11);
        CHECK.asks("it is zeroed", x, x::quiet, 0);
        // its turn is past by so many scans: it comes again by the 60th at the latest
        for (int ahead = 37; ahead <= 38; ahead++) {
            GuestPages y = zeroAt(48 - ahead);
            y.drop((48 - ahead) / 12, (48 - ahead) % 12);
            y.scan(48 - ahead + 1);
            y.write((48 - ahead) / 12, (48 - ahead) % 12, 0, 0);
            CHECK.asks("in the next round", y, y::quiet, 48);
        }
        GuestPages busy = Check.told("rate 1 1;guest12;guest12;guest6;advise 0 0 11;advise 1 0 11;advise 2 0 5;"
                + "page 2 4 1 0 0 0;page 2 5 1 0 0 0;");
        CHECK.asks("the 60th, the last of the second round", busy, busy::quiet, 60);
        GuestPages late = Check.told("rate 1 1;guest12;guest12;guest7;advise 0 0 11;advise 1 0 11;advise 2 0 6;"
                + "page 2 5 1 0 0 0;page 2 6 1 0 0 0;");
        CHECK.asks("the 62nd is too late", late, late::quiet, 0);
        late.ticks(1);
        CHECK.asks("the 61st, too", late, late::quiet, 0);
        late.ticks(1);
        CHECK.asks("the 60th is not", late, late::quiet, 60);
        late.ticks(1);
        CHECK.asks("nor is the 59th", late, late::quiet, 59);
        GuestPages joins = Check.told("rate 1 1;guest 3;page 0 0 1 0 0 0;page 0 1 1 0 0 0;advise 0 0 2;");
        joins.scan(5);
        joins.copy(0, 2, 0, 0);
        CHECK.asks("joined by the next", joins, joins::quiet, 1);
    }

    /** Two that are like at last, but rest by turns, so that they don't wait in the same round for long. */
    private static GuestPages restingByTurns() {
        GuestPages x = Check.told("smart;frames 48;guest12;guest12;guest12;guest12;advise 0 0 11;advise 1 0 11;"
                + "advise 2 0 11;advise 3 0 11;");
        x.write(0, 0, 2, 1);
        for (int i = 0; i < 10; i++) {
            x.scan(48);
        }
        x.write(3, 11, 3, 7);
        for (int i = 0; i < 4; i++) {
            x.scan(48);
        }
        x.write(0, 0, 2, 0);
        x.write(0, 0, 3, 7);
        return x;
    }

    // MERGES: behind how many SCANS (0 to 400) a PAGE lies in a MERGED FRAME first; none
    private static void mergesOfFourHundred() {
        GuestPages y = restingByTurns();
        int far = 0;
        while (far < 2000 && y.page(0, 0, 1) == 0) {
            y.scan(1);
            far++;
        }
        CHECK.due("merged beyond 500, at the other one's turn", far > 500 && far % 48 == 0, true);
        CHECK.due("both", y.page(3, 11, 1), 1);
        GuestPages x = restingByTurns();
        for (int page = 0; page < 12; page++) {
            int p = page;
            CHECK.asks("beyond", x, () -> x.merges(p % 2 * 3, p), -1);
        }
        for (int left = far; left > 403; left--) {
            x.scan(1);
        }
        int[] due = {-1, -1, -1, 400, 399, 398};
        for (int i = 0; i < due.length; i++) {
            CHECK.asks("behind " + (403 - i), x, () -> x.merges(0, 0), due[i]);
            CHECK.asks("the other one, behind " + (403 - i), x, () -> x.merges(3, 11), due[i]);
            x.scan(1);
        }
    }

    // (0 to 400): 0, it lies in one; none, it never does
    private static void mergesAtOnceOrNever() {
        GuestPages x = Check.told(FEW);
        int[] due = {6, 6, -1, -1};
        for (int p = 0; p < 4; p++) {
            int page = p;
            CHECK.asks("page " + p, x, () -> x.merges(0, page), due[p]);
        }
        x.scan(5);
        CHECK.asks("by the next", x, () -> x.merges(0, 0), 1);
        x.scan(1);
        CHECK.asks("it is already", x, () -> x.merges(0, 1), 0);
        int[] pages = {-1, 4, LEAST, MOST};
        for (int page : pages) {
            CHECK.noSuch("page " + page, x, () -> x.merges(0, page));
        }
        int[] guests = {-1, 1, LEAST, MOST};
        for (int guest : guests) {
            CHECK.noSuch("guest " + guest, x, () -> x.merges(guest, 0));
        }
        GuestPages y = Check.told("guest 1;page 0 0 1 0 0 0;");
        CHECK.asks("none is advised", y, () -> y.merges(0, 0), -1);
    }

    // n LIKE ones of a REALM need n by SHARE, rounded up
    private static void idealByShare() {
        for (int share = 2; share <= 8; share++) {
            for (int n = 1; n <= 12; n++) {
                StringBuilder text = new StringBuilder("share " + share + ";guest12;advise 0 0 11;");
                for (int p = 0; p < n; p++) {
                    text.append("page 0 ").append(p).append(" 0 0 0 1;");
                }
                GuestPages x = Check.told(text.toString());
                CHECK.due(n + " by " + share, x.ideal(0), (n + share - 1) / share);
                CHECK.due("lost", x.ideal(1), n - (n + share - 1) / share);
            }
        }
    }

    // (none with CELLS 0, if ZERO is told); any other one needs one; PAGES that lie in some now
    private static void idealOfOthers() {
        String text = "guest 4;guest 2 1;page 0 0 0 0 0 0;page 0 1 0 0 0 0;page 0 2 0 0 0 1;page 1 0 0 0 0 0;page 1 1 0 0 0 1;";
        String all = "advise 0 0 3;advise 1 0 1;";
        CHECK.due("none advised: one each", Check.told(text).ideal(0), 5);
        CHECK.due("none advised, zero told: one each", Check.told("zero;" + text).ideal(0), 5);
        CHECK.due("advised: two like ones of realm 0 in one", Check.told(text + all).ideal(0), 4);
        CHECK.due("zero told: none of 0", Check.told("zero;" + text + all).ideal(0), 2);
        CHECK.due("one advised of two", Check.told(text + "advise 0 0 0;").ideal(0), 5);
        CHECK.due("zero told, one advised of two", Check.told("zero;" + text + "advise 0 0 0;").ideal(0), 4);
        CHECK.due("zero told, the other of two", Check.told("zero;" + text + "advise 0 1 1;").ideal(0), 4);
        CHECK.due("two of three like ones advised, the first is not",
                Check.told("guest 3;page 0 0 5 0 0 0;page 0 1 5 0 0 0;page 0 2 5 0 0 0;advise 0 1 2;").ideal(0), 2);
        CHECK.due("two of three, the one between is not",
                Check.told("guest 3;page 0 0 5 0 0 0;page 0 1 5 0 0 0;page 0 2 5 0 0 0;advise 0 0 0;advise 0 2 2;").ideal(0), 2);
        CHECK.due("one of two like ones, the last",
                Check.told("guest 2;page 0 0 5 0 0 0;page 0 1 5 0 0 0;advise 0 1 1;").ideal(0), 2);
        GuestPages x = Check.told(text + all);
        CHECK.due("lost", x.ideal(1), 1);
        x.scan(12);
        CHECK.due("none lost", x.ideal(1), 0);
        x.drop(0, 0);
        CHECK.due("an absent one needs none", x.ideal(0), 4);
        x.drop(0, 1);
        CHECK.due("none of them needs any", x.ideal(0), 3);
        int[] not = {-1, 3, LEAST, MOST};
        for (int what : not) {
            CHECK.noSuch("what " + what, x, () -> x.ideal(what));
        }
        for (int what = 0; what < 3; what++) {
            int w = what;
            CHECK.asks("ideal " + what, x, () -> x.ideal(w), x.ideal(what));
        }
        GuestPages y = new GuestPages();
        CHECK.due("of nothing", y.ideal(0), 0);
        CHECK.due("nothing lost", y.ideal(1), 0);
        CHECK.due("no risk", y.ideal(2), -1);
    }

    /** More pages than frames: the last pages of all count as the first do. */
    private static void idealOfMorePagesThanFrames() {
        GuestPages x = Check.told("frames 3;guest 12;guest 12 1;page 1 10 1 0 0 0;page 1 11 1 0 0 0;page 0 0 1 0 0 0;"
                + "advise 0 0 11;advise 1 0 11;");
        CHECK.due("one by realm", x.ideal(0), 2);
        CHECK.due("one lost", x.ideal(1), 1);
        CHECK.due("two are merged then", x.then(60, 1), 2);
        CHECK.due("two are used then", x.then(60, 0), 2);
        CHECK.due("one waits then", x.then(60, 2), 1);
        x.scan(48);
        CHECK.due("two are merged", x.count(5), 2);
        CHECK.due("in one frame", x.count(2), 1);
        CHECK.due("of realm 1", x.knot(1, true, -1, 0), 1);
        CHECK.due("none of realm 0", x.knot(0, true, -1, 0), 0);
        CHECK.due("absent", x.count(6), 21);
        CHECK.due("advised", x.count(7), 24);
        CHECK.due("none lost", x.ideal(1), 0);
    }

    // RISK: with at least how many CELLS WRITTEN the last one can't be; none, if that can't come
    private static void riskByWhatIsFree() {
        for (int frames = 1; frames <= 14; frames++) {
            GuestPages x = Check.told("frames " + frames + ";guest 12;");
            CHECK.due("all absent, " + frames + " free", x.ideal(2), frames >= 12 ? -1 : frames + 1);
        }
        GuestPages x = Check.told("frames 3;guest 4;page 0 0 1 0 0 0;page 0 1 1 0 0 0;page 0 2 1 0 0 0;advise 0 0 3;");
        CHECK.due("none free, one absent", x.ideal(2), 1);
        x.scan(8);
        CHECK.due("two free; two can be split off, one is absent", x.ideal(2), 3);
        x.drop(0, 0);
        CHECK.due("two free; one can be split off, two are absent", x.ideal(2), 3);
        x.undo();
        x.write(0, 3, 0, 1);
        CHECK.due("one free; two can be split off", x.ideal(2), 2);
        x.write(0, 0, 0, 1);
        CHECK.due("none free; one can be split off", x.ideal(2), 1);
        GuestPages y = Check.told("frames 4;guest 4;page 0 0 1 0 0 0;page 0 1 1 0 0 0;page 0 2 1 0 0 0;advise 0 0 3;");
        y.scan(8);
        CHECK.due("three free; two can be split off, one is absent", y.ideal(2), -1);
        GuestPages z = Check.told("frames 1;guest 1;page 0 0 1 0 0 0;");
        CHECK.due("none free, an own one", z.ideal(2), -1);
    }

    // cells not 0 to 65535, ticks not 0 to 40 (behind NoSuchElementException); NONE: it can't be WRITTEN
    private static void probesAtTheirEdges() {
        GuestPages x = Check.told(FEW);
        CHECK.asks("0, 0", x, () -> x.probe(0, 0, 0, 0), 0);
        CHECK.asks("65535, 40", x, () -> x.probe(0, 3, 65535, 40), 0);
        int[] cells = {-1, 65536, LEAST, MOST};
        for (int c : cells) {
            CHECK.illegal("cells " + c, x, () -> x.probe(0, 0, c, 0));
        }
        int[] ticks = {-1, 41, LEAST, MOST};
        for (int t : ticks) {
            CHECK.illegal("ticks " + t, x, () -> x.probe(0, 0, 0, t));
            CHECK.noSuch("page 4, ticks " + t, x, () -> x.probe(0, 4, 0, t));
            CHECK.noSuch("guest 1, ticks " + t, x, () -> x.probe(1, 0, -1, t));
        }
        CHECK.noSuch("page -1", x, () -> x.probe(0, -1, 0, 0));
        CHECK.noSuch("guest -1", x, () -> x.probe(-1, 0, 0, 0));
        // CELL 0 the highest
        GuestPages y = Check.told("guest 2;page 0 0 1 2 3 4;page 0 1 0 0 0 0;advise 0 0 1;");
        CHECK.asks("as the other one", y, () -> y.probe(0, 1, 0x1234, 40), 1);
        CHECK.asks("the other way round", y, () -> y.probe(0, 1, 0x4321, 40), 0);
        int[] unlike = {0x0234, 0x1134, 0x1224, 0x1235};
        for (int c : unlike) {
            CHECK.asks("one unlike", y, () -> y.probe(0, 1, c, 40), 0);
        }
        GuestPages most = Check.told("guest 2;page 0 0 15 15 15 15;page 0 1 0 0 0 0;advise 0 0 1;");
        CHECK.asks("65535", most, () -> most.probe(0, 1, 65535, 40), 1);
        CHECK.asks("0", most, () -> most.probe(0, 0, 0, 40), 1);
        // it can't be WRITTEN
        GuestPages full = Check.told("frames 2;guest 3;page 0 0 1 0 0 0;page 0 1 1 0 0 0;advise 0 0 1;");
        CHECK.asks("an absent one", full, () -> full.probe(0, 2, 0, 0), -1);
        CHECK.illegal("ahead of that: ticks 41", full, () -> full.probe(0, 2, 0, 41));
        full.scan(4);
        CHECK.asks("one is free", full, () -> full.probe(0, 2, 0, 0), 0);
        full.write(0, 2, 0, 9);
        CHECK.asks("a merged one", full, () -> full.probe(0, 0, 0x1000, 0), -1);
        CHECK.asks("an own one", full, () -> full.probe(0, 2, 0, 0), 0);
        // 0, if it is ABSENT
        GuestPages zero = Check.told("zero;guest 1;page 0 0 1 0 0 0;advise 0 0 0;");
        CHECK.asks("zeroed by then", zero, () -> zero.probe(0, 0, 0, 1), 0);
    }

    private static void probesAsActs() {
        String text = "share 3;guest 5;page 0 0 1 0 0 0;page 0 1 1 0 0 0;page 0 2 1 0 0 0;page 0 3 0 0 0 0;advise 0 0 4;";
        GuestPages x = Check.told(text);
        for (int t = 0; t <= 40; t++) {
            GuestPages y = Check.told(text);
            y.write(0, 4, 0, 1);
            for (int i = 0; i < t; i++) {
                y.ticks(1);
            }
            CHECK.due("behind " + t, x.probe(0, 4, 0x1000, t), y.frame(y.page(0, 4, 0), -1) - 1);
        }
    }

    // TO ADVISE: (of like ones the least); not 0 to 40; none without GUESTS
    private static void toAdviseAtItsEdges() {
        GuestPages x = Check.told("guest 2;guest 2;guest 2;page 0 0 1 0 0 0;page 0 1 2 0 0 0;page 1 0 3 0 0 0;page 1 1 3 0 0 0;"
                + "page 2 0 4 0 0 0;page 2 1 4 0 0 0;");
        CHECK.asks("0: which", x, () -> x.toAdvise(0, 0), 0);
        CHECK.asks("0: how many", x, () -> x.toAdvise(0, 1), 6);
        CHECK.asks("40: of like ones the least", x, () -> x.toAdvise(40, 0), 1);
        CHECK.asks("40: how many", x, () -> x.toAdvise(40, 1), 5);
        int[] ticks = {-1, 41, LEAST, MOST};
        for (int t : ticks) {
            CHECK.illegal("ticks " + t, x, () -> x.toAdvise(t, 0));
            CHECK.illegal("ticks " + t + ", 1", x, () -> x.toAdvise(t, 1));
            CHECK.noSuch("what 2, ticks " + t, x, () -> x.toAdvise(t, 2));
        }
        int[] not = {-1, 2, LEAST, MOST};
        for (int what : not) {
            CHECK.noSuch("what " + what, x, () -> x.toAdvise(0, what));
        }
        GuestPages none = new GuestPages();
        CHECK.asks("no guests: which", none, () -> none.toAdvise(0, 0), -1);
        CHECK.asks("no guests: how many", none, () -> none.toAdvise(40, 1), -1);
        CHECK.illegal("no guests, 41", none, () -> none.toAdvise(41, 0));
        CHECK.noSuch("no guests, what 2", none, () -> none.toAdvise(0, 2));
        GuestPages last = Check.told("guest 1;guest 1;guest 1;guest 12;page 3 11 5 0 0 0;page 3 10 5 0 0 0;");
        CHECK.due("the fourth, up to its last page", last.toAdvise(40, 0), 3);
        CHECK.due("one frame", last.toAdvise(40, 1), 1);
        // what is advised already goes on
        x.advise(1, 0, 1, true);
        CHECK.due("with guest 1's advised, guest 2", x.toAdvise(40, 0), 2);
        CHECK.due("four", x.toAdvise(40, 1), 4);
    }

    // were all its PAGES ADVISED now: neither less nor more
    private static void toAdviseThatGuestAlone() {
        // guest 1's first page would be laid together with guest 0's, were it advised, too
        GuestPages x = Check.told("guest 1;guest 1;guest 1;page 0 0 5 0 0 0;page 1 0 5 0 0 0;");
        CHECK.due("none by itself: the least", x.toAdvise(40, 0), 0);
        CHECK.due("two stay", x.toAdvise(40, 1), 2);
        // guest 0's last page would be, were it advised with guest 1's
        GuestPages y = Check.told("guest 2;guest 2;guest 2;page 0 1 5 0 0 0;page 1 0 5 0 0 0;page 1 1 6 0 0 0;page 2 0 6 0 0 0;");
        CHECK.due("two stay, two stay", y.toAdvise(40, 1), 4);
        // first and last of a guest
        GuestPages z = Check.told("guest 3;guest 12;guest 3;page 1 0 5 0 0 0;page 1 11 5 0 0 0;page 0 0 1 0 0 0;");
        CHECK.due("guest 1", z.toAdvise(40, 0), 1);
        CHECK.due("two are left", z.toAdvise(40, 1), 2);
        GuestPages full = Check.told("guest12;guest12;guest12;guest12;page 3 0 5 0 0 0;page 3 11 5 0 0 0;");
        CHECK.due("the last guest of forty-eight pages", full.toAdvise(40, 0), 3);
        CHECK.due("one is left", full.toAdvise(40, 1), 1);
    }

    // TO RATE: the RATE (LEAST to MOST); (1 to 20); of like ones least WORK is done, then the least
    private static void toRateAtItsEdges() {
        StringBuilder text = new StringBuilder("rate 3 16;guest 8;advise 0 0 7;");
        for (int p = 0; p < 8; p++) {
            text.append("page 0 ").append(p).append(" 1 1 1 1;");
        }
        GuestPages x = Check.told("share 8;" + text);
        CHECK.asks("most: all in one tick", x, () -> x.toRate(1, 0), 16);
        CHECK.asks("one frame", x, () -> x.toRate(1, 1), 1);
        CHECK.asks("least, with time enough", x, () -> x.toRate(20, 0), 3);
        CHECK.asks("one frame", x, () -> x.toRate(20, 1), 1);
        int[] ticks = {0, -1, 21, LEAST, MOST};
        for (int t : ticks) {
            CHECK.illegal("ticks " + t, x, () -> x.toRate(t, 0));
            CHECK.illegal("ticks " + t + ", 1", x, () -> x.toRate(t, 1));
            CHECK.noSuch("what 2, ticks " + t, x, () -> x.toRate(t, 2));
        }
        int[] not = {-1, 2, LEAST, MOST};
        for (int what : not) {
            CHECK.noSuch("what " + what, x, () -> x.toRate(1, what));
        }
        GuestPages one = Check.told("rate 5 5;guest 1;");
        CHECK.due("but one", one.toRate(1, 0), 5);
        CHECK.due("without guests", new GuestPages().toRate(20, 0), 1);
        CHECK.due("without guests: how many", new GuestPages().toRate(20, 1), 0);
        GuestPages most = Check.told("rate 16 16;guest 1;");
        CHECK.due("16", most.toRate(1, 0), 16);
        // no frames can be saved: least work, which is the least rate that does none
        GuestPages y = Check.told("rate 1 4;guest 2;page 0 0 1 0 0 0;page 0 1 2 0 0 0;advise 0 0 1;");
        y.rate(4);
        CHECK.due("of like ones the least", y.toRate(1, 0), 1);
    }

    private static void toRateDue(String text, int least, int most, int ticks, int rate, int used) {
        GuestPages x = Check.told("rate " + least + " " + most + ";" + text);
        int best = -1;
        int fewest = 0;
        int work = 0;
        for (int r = least; r <= most; r++) {
            GuestPages y = Check.told("rate " + least + " " + most + ";" + text);
            y.rate(r);
            y.ticks(ticks);
            int n = y.count(1);
            if (best == -1 || n < fewest || n == fewest && y.count(13) < work) {
                best = r;
                fewest = n;
                work = y.count(13);
            }
        }
        CHECK.due("by acts: " + text, best, rate);
        CHECK.due("frames by acts: " + text, fewest, used);
        CHECK.asks("to rate: " + text, x, () -> x.toRate(ticks, 0), rate);
        CHECK.asks("frames: " + text, x, () -> x.toRate(ticks, 1), used);
    }

    // fewest FRAMES, of like ones least WORK is done, then the least
    private static void toRateOfLikeOnes() {
        // 4 and 5 lead to as few frames; by 5 less work is done, as RATE is half of it in time
        toRateDue("zero;guest 4;page 0 0 1 0 0 0;page 0 1 2 0 0 0;page 0 3 1 0 0 0;advise 0 0 3;", 1, 6, 3, 5, 2);
        toRateDue("guest 4;page 0 0 1 0 0 0;page 0 2 1 0 0 0;page 0 3 2 0 0 0;advise 0 0 3;", 2, 9, 2, 5, 2);
        // work, not how many are scanned
        toRateDue("guest 4;page 0 0 1 0 0 0;page 0 1 2 0 0 0;page 0 2 1 0 0 0;advise 0 0 3;", 2, 7, 2, 4, 2);
        toRateDue("zero;guest 2;page 0 0 0 0 0 0;advise 0 0 1;", 3, 7, 12, 3, 0);
        // less work with more frames doesn't count
        toRateDue("guest 4;page 0 1 1 0 0 0;page 0 2 0 0 0 0;page 0 3 1 0 0 0;advise 0 0 3;", 1, 8, 2, 4, 2);
        toRateDue("guest 4;page 0 0 1 0 0 0;page 0 3 1 0 0 0;advise 0 0 3;", 2, 9, 2, 4, 1);
    }

    // NOTED (at most 8); NONE (STATUS 2): there are 8, ticks not 0 to 20, used not 0 to 48
    private static void notesOfEight() {
        GuestPages x = Check.told(TWO);
        int[] ticks = {-1, 21, LEAST, MOST};
        for (int t : ticks) {
            CHECK.refuses("ticks " + t, x, 2, () -> x.note(t, 0));
        }
        int[] used = {-1, 49, LEAST, MOST};
        for (int u : used) {
            CHECK.refuses("used " + u, x, 2, () -> x.note(0, u));
        }
        int[][] ok = {{0, 0}, {0, 48}, {20, 0}, {20, 48}, {1, 1}, {1, 1}, {19, 47}};
        for (int i = 0; i < ok.length; i++) {
            CHECK.due("noted", x.note(ok[i][0], ok[i][1]), i + 1);
        }
        CHECK.refuses("one more can be, but not so", x, 2, () -> x.note(21, 49));
        CHECK.due("the eighth", x.note(0, 2), 8);
        CHECK.refuses("there are 8", x, 2, () -> x.note(0, 2));
        CHECK.refuses("nor else", x, 2, () -> x.note(21, 2));
        CHECK.due("count 23", x.count(23), 8);
        CHECK.due("no acts", x.count(22), 0);
        CHECK.due("nothing to undo", x.undo(), -1);
        CHECK.due("STATUS 1", x.count(26), 0);
        // what was noted last counts as what was noted first
        GuestPages y = Check.told(TWO);
        for (int i = 0; i < 7; i++) {
            y.note(i, 2);
        }
        CHECK.due("so without", y.guess(0, 0, 0, 2), 1);
        y.note(0, 3);
        CHECK.due("not so by the eighth", y.guess(0, 0, 0, 2), 0);
        CHECK.due("no guess", y.guess(0, 0, 0, 0), 0);
        GuestPages z = Check.told(TWO);
        z.note(0, 3);
        for (int i = 0; i < 7; i++) {
            z.note(i, 2);
        }
        CHECK.due("not so by the first", z.guess(0, 0, 0, 2), 0);
    }

    // how many FRAMES are used behind so many TICKS (0 to 20)
    private static void notedAtZeroAndTwenty() {
        GuestPages x = Check.told("rate 1 1;guest 12;page 0 0 1 0 0 0;page 0 7 2 0 0 0;advise 0 0 11;");
        // page 7 as page 0: paired by the 20th scan
        x.note(20, 1);
        CHECK.due("by the 20th", x.guess(0, 7, 0, 0), 1);
        CHECK.due("1", x.guess(0, 7, 0, 1), 1);
        CHECK.due("not without", x.guess(0, 7, 0, 2), 0);
        x.forget();
        x.note(19, 1);
        CHECK.due("the 19th is too soon", x.guess(0, 7, 0, 0), 0);
        x.forget();
        x.note(0, 2);
        CHECK.due("now", x.guess(0, 7, 0, 2), 1);
        CHECK.due("now, were it written", x.guess(0, 7, 0, 0), 15);
        CHECK.due("an absent one takes a frame", x.guess(0, 1, 0, 0), 0);
        x.forget();
        x.note(0, 3);
        CHECK.due("not without", x.guess(0, 1, 0, 2), 0);
        CHECK.due("an absent one, written", x.guess(0, 1, 0, 0), 15);
        CHECK.due("the first that it isn't", x.guess(0, 1, 0, 1), 1);
        // meant from now on, whenever it was noted
        GuestPages y = Check.told("rate 1 1;guest 2;page 0 0 1 0 0 0;page 0 1 1 0 0 0;advise 0 0 1;");
        y.note(4, 1);
        y.note(3, 2);
        CHECK.due("so", y.guess(0, 0, 0, 2), 1);
        y.ticks(1);
        CHECK.due("not so any more", y.guess(0, 0, 0, 2), 0);
        y.undo();
        CHECK.due("so again", y.guess(0, 0, 0, 2), 1);
    }

    // what it might be instead of what it is (0 to 15)
    private static void guessesOfSixteen() {
        for (int cell = 0; cell < 4; cell++) {
            for (int is = 0; is <= 15; is += 5) {
                for (int other = 0; other <= 15; other += 5) {
                    GuestPages x = Check.told("rate 1 1;guest 2;page 0 0 0 0 0 0;page 0 1 0 0 0 0;advise 0 0 1;");
                    x.write(0, 0, cell, other);
                    x.write(0, 1, cell, is);
                    CHECK.due("nothing noted: all others", x.guess(0, 1, cell, 0), 15);
                    CHECK.due("the first of these", x.guess(0, 1, cell, 1), is == 0 ? 1 : 0);
                    x.note(20, 1);
                    CHECK.due("what it is is no guess", x.guess(0, 1, cell, 0), is == other ? 0 : 1);
                    CHECK.due("which", x.guess(0, 1, cell, 1), is == other ? -1 : other);
                    CHECK.due("without", x.guess(0, 1, cell, 2), is == other ? 1 : 0);
                }
            }
        }
    }

    // none, if it can't be WRITTEN; NoSuchElementException: CELL, another what
    private static void guessesAtTheirEdges() {
        GuestPages x = Check.told("frames 2;guest 3;page 0 0 1 0 0 0;page 0 1 1 0 0 0;advise 0 0 1;");
        x.scan(4);
        x.write(0, 2, 0, 1);
        CHECK.asks("merged, none free: none", x, () -> x.guess(0, 0, 0, 0), 0);
        CHECK.asks("no first", x, () -> x.guess(0, 0, 0, 1), -1);
        CHECK.asks("so without", x, () -> x.guess(0, 0, 0, 2), 1);
        CHECK.asks("no look", x, () -> x.look(0, 0, 0, 0), -1);
        CHECK.asks("0: none", x, () -> x.look(0, 0, 0, 1), 0);
        CHECK.asks("own", x, () -> x.guess(0, 2, 3, 0), 15);
        int[] cells = {-1, 4, LEAST, MOST};
        for (int cell : cells) {
            CHECK.noSuch("cell " + cell, x, () -> x.guess(0, 0, cell, 0));
            CHECK.noSuch("look, cell " + cell, x, () -> x.look(0, 0, cell, 0));
        }
        int[] not = {-1, 3, LEAST, MOST};
        for (int what : not) {
            CHECK.noSuch("what " + what, x, () -> x.guess(0, 0, 0, what));
            CHECK.noSuch("look, what " + what, x, () -> x.look(0, 0, 0, what));
        }
        CHECK.noSuch("look, what 2", x, () -> x.look(0, 0, 0, 2));
        int[] pages = {-1, 3, LEAST, MOST};
        for (int page : pages) {
            CHECK.noSuch("page " + page, x, () -> x.guess(0, page, 0, 0));
            CHECK.noSuch("look, page " + page, x, () -> x.look(0, page, 0, 0));
        }
        int[] guests = {-1, 1, LEAST, MOST};
        for (int guest : guests) {
            CHECK.noSuch("guest " + guest, x, () -> x.guess(guest, 0, 0, 0));
            CHECK.noSuch("look, guest " + guest, x, () -> x.look(guest, 0, 0, 0));
        }
    }

    // LOOK NEXT: (1 to 20; of like ones the first); how many unlike; none without any
    private static void lookOfTwenty() {
        GuestPages x = Check.told(TWO);
        CHECK.asks("15 is merged by the 4th", x, () -> x.look(0, 1, 0, 0), 4);
        CHECK.asks("two unlike", x, () -> x.look(0, 1, 0, 1), 2);
        CHECK.asks("all like: the first", x, () -> x.look(0, 1, 1, 0), 1);
        CHECK.asks("all like: one", x, () -> x.look(0, 1, 1, 1), 1);
        x.note(20, 2);
        CHECK.asks("15 is no guess any more", x, () -> x.look(0, 1, 0, 0), 1);
        x.forget();
        x.note(4, 1);
        CHECK.asks("15 alone", x, () -> x.look(0, 1, 0, 1), 1);
        x.note(4, 2);
        CHECK.asks("no guess", x, () -> x.look(0, 1, 0, 0), -1);
        CHECK.asks("0: none", x, () -> x.look(0, 1, 0, 1), 0);
        // zeroed at once by 0, by the first tick
        GuestPages y = Check.told("zero;rate 1 1;guest 1;page 0 0 1 0 0 0;advise 0 0 0;");
        CHECK.asks("0 is zeroed by the first", y, () -> y.look(0, 0, 0, 0), 1);
        CHECK.asks("two unlike", y, () -> y.look(0, 0, 0, 1), 2);
        // zeroed by the 20th, and by the 21st
        for (int pages = 20; pages <= 21; pages++) {
            GuestPages z = Check.told("zero;rate 1 1;guest 12;guest " + (pages - 12) + ";advise 0 0 11;advise 1 0 "
                    + (pages - 13) + ";page 1 " + (pages - 13) + " 1 0 0 0;");
            int last = pages - 13;
            CHECK.asks(pages + "th", z, () -> z.look(1, last, 0, 0), last == 7 ? 20 : 1);
            CHECK.asks("unlike by then", z, () -> z.look(1, last, 0, 1), last == 7 ? 2 : 1);
        }
        // by 0 the round yields, RATE is twice as much, and more is laid together by then
        GuestPages w = Check.told("zero;rate 1 7;guest 6;page 0 0 1 0 0 0;page 0 1 2 0 0 0;page 0 2 2 0 0 0;page 0 3 0 0 0 0;"
                + "page 0 4 3 0 0 0;page 0 5 2 0 0 0;advise 0 0 5;");
        CHECK.asks("three unlike", w, () -> w.look(0, 0, 0, 1), 3);
        CHECK.asks("behind the 8th", w, () -> w.look(0, 0, 0, 0), 8);
        lookAsActs(w);
    }

    /** For each page and cell: each guess is written, twenty ticks go by, all is undone. */
    private static void lookAsActs(GuestPages x) {
        for (int p = 0; p < x.guest(0, 0); p++) {
            for (int cell = 0; cell < 4; cell += 3) {
                long[] seen = new long[21];
                for (int number = 0; number < 16; number++) {
                    if (number != x.read(0, p, cell) && x.write(0, p, cell, number) != -1) {
                        for (int t = 1; t <= 20; t++) {
                            x.ticks(1);
                            seen[t] |= 1L << x.count(1);
                        }
                        for (int t = 0; t <= 20; t++) {
                            x.undo();
                        }
                    }
                }
                int best = 1;
                for (int t = 2; t <= 20; t++) {
                    best = Long.bitCount(seen[t]) > Long.bitCount(seen[best]) ? t : best;
                }
                CHECK.due("look at page " + p + ", cell " + cell, x.look(0, p, cell, 0), best);
                CHECK.due("unlike by page " + p + ", cell " + cell, x.look(0, p, cell, 1), Long.bitCount(seen[best]));
            }
        }
    }

    // All that is NOTED is forgotten
    private static void forgets() {
        GuestPages x = Check.told(TWO);
        x.forget();
        CHECK.due("none was", x.count(23), 0);
        for (int i = 0; i < 8; i++) {
            x.note(0, 48);
        }
        x.note(0, 48);
        CHECK.due("not so", x.guess(0, 0, 0, 2), 0);
        x.forget();
        CHECK.due("none", x.count(23), 0);
        CHECK.due("so", x.guess(0, 0, 0, 2), 1);
        CHECK.due("STATUS 2 stays", x.count(27), 1);
        CHECK.due("no act", x.count(22), 0);
        CHECK.due("noted again", x.note(0, 2), 1);
        x.image();
        x.forget();
        CHECK.due("restored", x.restore(), true);
        CHECK.due("noted", x.count(23), 1);
    }

    // DIRT: with so many tenths (0 to 10), each time by itself: as so many of 10 to the power of n
    private static void dirtOfTenths() {
        GuestPages x = Check.told("rate 4 4;guest 2;page 0 0 1 0 0 0;page 0 1 1 0 0 0;advise 0 0 1;");
        x.ticks(1);
        CHECK.due("merged", x.count(5), 2);
        // written ahead of any of the ticks, page 1 is split off and stays apart: its cell 0 is another one
        int power = 1;
        for (int n = 1; n <= 4; n++) {
            power *= 10;
            for (int tenths = 0; tenths <= 10; tenths++) {
                int never = 1;
                for (int i = 0; i < n; i++) {
                    never *= 10 - tenths;
                }
                int ticks = n;
                int t = tenths;
                CHECK.asks("at most 0", x, () -> x.dirt(0, 1, ticks, t, 0), 0);
                CHECK.asks("at most 1", x, () -> x.dirt(0, 1, ticks, t, 1), never);
                CHECK.asks("at most 2", x, () -> x.dirt(0, 1, ticks, t, 2), power);
            }
        }
        CHECK.due("least", x.dirt(0, 1, 4, 5, LEAST), 0);
        CHECK.due("-1", x.dirt(0, 1, 4, 5, -1), 0);
        CHECK.due("most", x.dirt(0, 1, 4, 5, MOST), 10000);
        CHECK.due("48", x.dirt(0, 1, 4, 5, 48), 10000);
    }

    // IllegalArgumentException (behind NoSuchElementException): ticks not 1 to 4, tenths not 0 to 10
    private static void dirtAtItsEdges() {
        GuestPages x = Check.told(TWO);
        int[] ticks = {0, -1, 5, LEAST, MOST};
        for (int t : ticks) {
            CHECK.illegal("ticks " + t, x, () -> x.dirt(0, 0, t, 0, 9));
            CHECK.noSuch("page 2, ticks " + t, x, () -> x.dirt(0, 2, t, 0, 9));
        }
        int[] tenths = {-1, 11, LEAST, MOST};
        for (int t : tenths) {
            CHECK.illegal("tenths " + t, x, () -> x.dirt(0, 0, 1, t, 9));
            CHECK.noSuch("guest 1, tenths " + t, x, () -> x.dirt(1, 0, 1, t, 9));
        }
        CHECK.noSuch("page -1", x, () -> x.dirt(0, -1, 1, 1, 9));
        CHECK.noSuch("guest -1", x, () -> x.dirt(-1, 0, 1, 1, 9));
        // CELL 0 one more MOD 16
        GuestPages y = Check.told("zero;guest 1;page 0 0 15 0 0 0;advise 0 0 0;");
        CHECK.due("15 becomes 0, and is zeroed", y.dirt(0, 0, 1, 3, 0), 3);
        GuestPages z = Check.told("zero;guest 1;page 0 0 14 0 0 0;advise 0 0 0;");
        CHECK.due("14 doesn't", z.dirt(0, 0, 1, 3, 0), 0);
        CHECK.due("but by two", z.dirt(0, 0, 2, 3, 0), 9);
        GuestPages w = Check.told("zero;guest 1;page 0 0 15 0 0 1;advise 0 0 0;");
        CHECK.due("the other cells stay", w.dirt(0, 0, 4, 10, 0), 0);
        // (if it can be)
        GuestPages full = Check.told("frames 1;guest 2;page 0 0 1 0 0 0;");
        CHECK.due("it can't be", full.dirt(0, 1, 4, 10, 1), 10000);
        GuestPages free = Check.told("frames 2;guest 2;page 0 0 1 0 0 0;");
        CHECK.due("it can be", free.dirt(0, 1, 4, 10, 1), 0);
        CHECK.due("once in a half of all", free.dirt(0, 1, 1, 5, 1), 5);
        CHECK.due("never twice", free.dirt(0, 1, 2, 5, 1), 25);
    }

    /** The numbers of a seed by the rule's words, with numbers that never wrap by themselves. */
    private static final class Numbers {
        private static final BigInteger ALL = BigInteger.ONE.shiftLeft(32);
        private BigInteger seed;

        Numbers(int seed) {
            this.seed = BigInteger.valueOf(seed).mod(ALL);
        }

        int draw(int n) {
            seed = seed.multiply(BigInteger.valueOf(1103515245)).add(BigInteger.valueOf(12345)).mod(ALL);
            int bits = 0;
            for (int i = 30; i >= 16; i--) {
                bits = 2 * bits + (seed.testBit(i) ? 1 : 0);
            }
            return bits % n;
        }
    }

    private static void yearsDue(String text, int guests, int each, int seed, int n) {
        GuestPages x = Check.told(text);
        int laid = 0;
        int failed = 0;
        Numbers numbers = new Numbers(seed);
        GuestPages y = Check.told(text);
        int pages = guests * each;
        for (int t = 0; t < n; t++) {
            int kind = numbers.draw(4);
            int p = kind < 3 ? numbers.draw(pages) : 0;
            int answer = 0;
            if (kind == 0) {
                int cell = numbers.draw(4);
                answer = y.write(p / each, p % each, cell, numbers.draw(4));
            } else if (kind == 1) {
                int q = numbers.draw(pages);
                answer = y.copy(p / each, p % each, q / each, q % each);
            } else if (kind == 2) {
                y.drop(p / each, p % each);
            }
            failed += answer == -1 ? 1 : 0;
            int was = y.count(15) + y.count(16) + y.count(17);
            y.ticks(1);
            laid += y.count(15) + y.count(16) + y.count(17) - was;
        }
        String what = "years of " + seed + ", " + n;
        int[] due = {laid, y.count(1), failed};
        for (int i = 0; i < 3; i++) {
            int w = i;
            CHECK.asks(what + ", " + i, x, () -> x.years(seed, n, w), due[i]);
        }
    }

    // n TICKS (0 to 60); NoSuchElementException: another what. IllegalArgumentException (behind that): n
    private static void yearsOfSixty() {
        GuestPages x = Check.told(FEW);
        CHECK.asks("0: laid", x, () -> x.years(1, 0, 0), 0);
        CHECK.asks("0: used", x, () -> x.years(1, 0, 1), 3);
        CHECK.asks("0: couldn't be", x, () -> x.years(1, 0, 2), 0);
        int[] n = {-1, 61, LEAST, MOST};
        for (int t : n) {
            for (int what = 0; what < 3; what++) {
                int w = what;
                CHECK.illegal("n " + t, x, () -> x.years(1, t, w));
            }
            CHECK.noSuch("what 3, n " + t, x, () -> x.years(1, t, 3));
        }
        int[] not = {-1, 3, LEAST, MOST};
        for (int what : not) {
            CHECK.noSuch("what " + what, x, () -> x.years(1, 1, what));
        }
        for (int t = 0; t <= 60; t++) {
            yearsDue("zero;rate 4 9;guest 3;guest 3 1;advise 0 0 2;advise 1 0 1;", 2, 3, 2026, t);
        }
    }

    // A seed becomes itself times 1103515245 and 12345 (an int that wraps); bits 16 to 30
    private static void yearsBySeedsThatWrap() {
        int[] seeds = {0, 1, -1, 2, MOST, LEAST, MOST - 1, LEAST + 1, 65535, 65536, -65536, 0x40000000, 0x7fff0000, 99999999};
        for (int seed : seeds) {
            yearsDue("zero;rate 6 6;guest 4;guest 4;guest 4;advise 0 0 3;advise 1 0 3;advise 2 0 3;", 3, 4, seed, 60);
            yearsDue("frames 3;share 2;rate 3 6;guest 5;advise 0 0 4;", 1, 5, seed, 60);
            yearsDue("frames 48;guest12;guest12;guest12;guest12;advise 0 0 11;advise 3 0 11;", 4, 12, seed, 60);
        }
    }

    // without PAGES nothing is drawn behind 0 to 2
    private static void yearsOfNothing() {
        GuestPages x = new GuestPages();
        for (int what = 0; what < 3; what++) {
            int w = what;
            CHECK.asks("without pages", x, () -> x.years(5, 60, w), 0);
        }
        // one page: each draw of pages is 0
        for (int seed = 0; seed < 20; seed++) {
            yearsDue("frames 1;guest 1;advise 0 0 0;", 1, 1, seed, 30);
            yearsDue("zero;frames 1;guest 1;advise 0 0 0;", 1, 1, seed, 30);
        }
    }

    // how many times what was to be WRITTEN couldn't be; it is DROPPED, if it isn't ABSENT
    private static void whatCouldNotBe() {
        for (int seed = 0; seed < 20; seed++) {
            yearsDue("frames 1;guest 12;", 1, 12, seed, 60);
            yearsDue("frames 12;guest 12;", 1, 12, seed, 60);
        }
        GuestPages x = Check.told("frames 12;guest 12;");
        for (int seed = 0; seed < 20; seed++) {
            CHECK.due("with frames enough all can be", x.years(seed, 60, 2), 0);
        }
    }
}
