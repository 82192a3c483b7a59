/** Terms 3: trees, scans, what befalls a page, rounds, ticks: each boundary that a sentence names, on both sides. */
public final class ScanEdgesTest {
    private static final Check CHECK = new Check();
    private static final String ALL = "guest12;guest12;guest12;guest12;advise 0 0 11;advise 1 0 11;advise 2 0 11;advise 3 0 11;";

    public static void main(String[] args) {
        comparesUpToTheFirstUnlike();
        leavesWithNoneBelow();
        leavesWithOneBelow();
        leavesWithTwoBelow();
        leavesWherever();
        stableKnotsLeave();
        candidatesOfAllPages();
        candidatesFallingToo();
        leavesFarDown();
        lastOfTheLeftFarDown();
        stableKnotsOfAllPages();
        aChainOfAllPages();
        realmsApart();
        cursorGoesRound();
        cursorAmongFew();
        cursorWithoutAny();
        roundEndsWhenOneIsSought();
        rateAtARoundsEnd();
        rateByHowManyWereScanned();
        yieldIsOfThree();
        everIsOfAllRounds();
        absentFirst();
        mergedAlready();
        restsAheadOfZeroed();
        restsAheadOfJoined();
        zeroedHasNoSum();
        zeroedByAllCells();
        joinedAheadOfBusy();
        joinsBelowShare();
        joinsWhereMostAre();
        joinsOneOfManyKnots();
        busyAheadOfHidden();
        sumsAtTheirEdges();
        hiddenAtTheRootAndBelow();
        pairedByWhatItsCellsAre();
        pairedAtTheChainsEnd();
        agesAndRests();
        agesOfHidden();
        pairedCandidatesAge();
        ticksOfRate();
        CHECK.end();
    }

    private static void knotDue(GuestPages x, boolean stable, int i, int which, int above) {
        CHECK.due("knot " + i, x.knot(0, stable, i, 0), which);
        CHECK.due("above knot " + i, x.knot(0, stable, i, 1), above);
    }

    /** Pages with so much in cell 0, one scan ahead of waiting all, then waiting in a tree in their order. */
    private static GuestPages waiting(int... first) {
        StringBuilder text = new StringBuilder("guest " + first.length + ";");
        for (int p = 0; p < first.length; p++) {
            text.append("page 0 ").append(p).append(' ').append(first[p]).append(" 0 0 0;");
        }
        GuestPages x = Check.told(text + "advise 0 0 " + (first.length - 1) + ";");
        x.scan(first.length);
        CHECK.due("none is paired", x.scan(first.length), 0);
        CHECK.due("all wait", x.count(8), first.length);
        return x;
    }

    // CELL by CELL, 0 first, up to the first that is unlike (1 for each CELL, the unlike one, too)
    private static void comparesUpToTheFirstUnlike() {
        String[] less = {"4 9 9 9", "5 4 9 9", "5 5 4 9", "5 5 5 4"};
        String[] more = {"6 0 0 0", "5 6 0 0", "5 5 6 0", "5 5 5 6"};
        for (int cell = 0; cell < 4; cell++) {
            GuestPages x = Check.told("guest 2;page 0 0 5 5 5 5;page 0 1 " + less[cell] + ";advise 0 0 1;");
            x.scan(4);
            CHECK.due("work", x.count(13), cell + 1);
            knotDue(x, false, 0, 1, 1);
            knotDue(x, false, 1, 0, 0);
            GuestPages y = Check.told("guest 2;page 0 0 5 5 5 5;page 0 1 " + more[cell] + ";advise 0 0 1;");
            y.scan(4);
            CHECK.due("work", y.count(13), cell + 1);
            knotDue(y, false, 0, 0, 0);
            knotDue(y, false, 1, 1, 1);
        }
        GuestPages z = Check.told("guest 3;page 0 0 5 5 5 5;page 0 1 5 5 5 5;page 0 2 5 5 5 5;advise 0 0 2;");
        z.scan(4);
        CHECK.due("no knot, no work", z.count(13), 0);
        CHECK.due("paired", z.scan(1), 1);
        CHECK.due("all alike, once: inserted without work anew", z.count(13), 4);
        CHECK.due("joined", z.scan(1), 1);
        CHECK.due("all alike in the stable tree", z.count(13), 8);
        GuestPages w = Check.told("guest 2;page 0 0 15 15 15 15;page 0 1 0 0 0 0;advise 0 0 1;");
        w.scan(4);
        knotDue(w, false, 0, 1, 1);
    }

    // if there is one right below it at most, that one comes to its place (none, if there is none)
    private static void leavesWithNoneBelow() {
        GuestPages root = waiting(5);
        root.advise(0, 0, 0, false);
        CHECK.due("an empty tree", root.knot(0, false, -1, 0), 0);
        CHECK.noSuch("no knot", () -> root.knot(0, false, 0, 0));
        GuestPages left = waiting(5, 3, 7);
        left.advise(0, 1, 1, false);
        knotDue(left, false, 0, 0, 0);
        knotDue(left, false, 1, 2, 1);
        GuestPages right = waiting(5, 3, 7);
        right.advise(0, 2, 2, false);
        knotDue(right, false, 0, 1, 1);
        knotDue(right, false, 1, 0, 0);
    }

    // that one comes to its place with all below it
    private static void leavesWithOneBelow() {
        // 8 has 4 to the left, which has 2 and 6
        GuestPages x = waiting(8, 4, 2, 6);
        x.advise(0, 0, 0, false);
        knotDue(x, false, 0, 2, 1);
        knotDue(x, false, 1, 1, 0);
        knotDue(x, false, 2, 3, 1);
        // 2 has 6 to the right, which has 4 and 8
        GuestPages y = waiting(2, 6, 4, 8);
        y.advise(0, 0, 0, false);
        knotDue(y, false, 0, 2, 1);
        knotDue(y, false, 1, 1, 0);
        knotDue(y, false, 2, 3, 1);
        // 9 has 3 below it, which has 7, which has 5: 3 leaves, 7 comes
        GuestPages z = waiting(9, 3, 7, 5);
        z.advise(0, 1, 1, false);
        knotDue(z, false, 0, 3, 2);
        knotDue(z, false, 1, 2, 1);
        knotDue(z, false, 2, 0, 0);
        // 1 has 7 below it, which has 3, which has 5: 7 leaves, 3 comes
        GuestPages w = waiting(1, 7, 3, 5);
        w.advise(0, 1, 1, false);
        knotDue(w, false, 0, 0, 0);
        knotDue(w, false, 1, 2, 1);
        knotDue(w, false, 2, 3, 2);
    }

    // else the leftmost of all to its right first LEAVES from where it is, and then comes to its place
    private static void leavesWithTwoBelow() {
        // the one right below to the right has none to its left
        GuestPages x = waiting(5, 3, 7, 9, 8);
        x.advise(0, 0, 0, false);
        knotDue(x, false, 0, 1, 1);
        knotDue(x, false, 1, 2, 0);
        knotDue(x, false, 2, 4, 2);
        knotDue(x, false, 3, 3, 1);
        // the leftmost, 6, is deep, and has 7 to its right, which comes to its place
        GuestPages y = waiting(5, 3, 12, 9, 6, 7, 13, 8);
        y.advise(0, 0, 0, false);
        knotDue(y, false, 0, 1, 1);
        knotDue(y, false, 1, 4, 0);
        knotDue(y, false, 2, 5, 3);
        knotDue(y, false, 3, 7, 4);
        knotDue(y, false, 4, 3, 2);
        knotDue(y, false, 5, 2, 1);
        knotDue(y, false, 6, 6, 2);
        // not the root: 3, to the left of 9, has 1 and 5
        GuestPages z = waiting(9, 3, 1, 5, 4, 7);
        z.advise(0, 1, 1, false);
        knotDue(z, false, 0, 2, 2);
        knotDue(z, false, 1, 4, 1);
        knotDue(z, false, 2, 3, 2);
        knotDue(z, false, 3, 5, 3);
        knotDue(z, false, 4, 0, 0);
    }

    /** A knot of a tree as the document tells it; with none left or right: null. */
    private static final class Knot {
        final int page;
        final int cell;
        Knot left;
        Knot right;

        Knot(int page, int cell) {
            this.page = page;
            this.cell = cell;
        }
    }

    private static Knot inserted(Knot knot, int page, int cell) {
        if (knot == null) {
            return new Knot(page, cell);
        }
        if (cell < knot.cell) {
            knot.left = inserted(knot.left, page, cell);
        } else {
            knot.right = inserted(knot.right, page, cell);
        }
        return knot;
    }

    /** What comes to the place of a knot that LEAVES. */
    private static Knot heirOf(Knot knot) {
        if (knot.left == null || knot.right == null) {
            return knot.left == null ? knot.right : knot.left;
        }
        Knot heir = knot.right;
        while (heir.left != null) {
            heir = heir.left;
        }
        heir.right = without(knot.right, heir.cell);
        heir.left = knot.left;
        return heir;
    }

    private static Knot without(Knot knot, int cell) {
        if (knot.cell == cell) {
            return heirOf(knot);
        }
        if (cell < knot.cell) {
            knot.left = without(knot.left, cell);
        } else {
            knot.right = without(knot.right, cell);
        }
        return knot;
    }

    private static int treeDue(GuestPages x, Knot knot, int from, int above) {
        if (knot == null) {
            return from;
        }
        int i = treeDue(x, knot.left, from, above + 1);
        knotDue(x, false, i, knot.page, above);
        return treeDue(x, knot.right, i + 1, above + 1);
    }

    /** 1 to 12, each once, in an order by a number. */
    private static int[] mixed(int by) {
        int[] cells = new int[12];
        int seed = by;
        for (int i = 0; i < 12; i++) {
            seed = (seed * 421 + 1663) % 7875;
            int at = seed % (i + 1);
            cells[i] = cells[at];
            cells[at] = i + 1;
        }
        return cells;
    }

    /** Trees of twelve in many orders: one after the other leaves, wherever it is, until none is left. */
    private static void leavesWherever() {
        for (int by = 0; by < 60; by++) {
            int[] cells = mixed(by);
            GuestPages x = waiting(cells);
            Knot root = null;
            for (int p = 0; p < 12; p++) {
                root = inserted(root, p, cells[p]);
            }
            CHECK.due("all of them", treeDue(x, root, 0, 0), 12);
            for (int n = 0; n < 12; n++) {
                int p = (by + n * 5) % 12;
                CHECK.due("leaves", x.advise(0, p, p, false), 1);
                root = without(root, cells[p]);
                CHECK.due("so many are left", treeDue(x, root, 0, 0), 11 - n);
                CHECK.due("not more", x.knot(0, false, -1, 0), 11 - n);
            }
        }
    }

    /** Pairs in the order 5, 3, 7, 9: the stable knots are laid as the candidates above. */
    private static void stableKnotsLeave() {
        GuestPages x = Check.told("guest 8;page 0 0 5 0 0 0;page 0 1 5 0 0 0;page 0 2 3 0 0 0;page 0 3 3 0 0 0;"
                + "page 0 4 7 0 0 0;page 0 5 7 0 0 0;page 0 6 9 0 0 0;page 0 7 9 0 0 0;advise 0 0 7;");
        CHECK.due("four pairs", x.scan(16), 4);
        knotDue(x, true, 0, 2, 1);
        knotDue(x, true, 1, 0, 0);
        knotDue(x, true, 2, 4, 1);
        knotDue(x, true, 3, 6, 2);
        x.drop(0, 0);
        CHECK.due("one page is left: the knot stays", x.count(9), 4);
        CHECK.due("written alone, it leaves", x.write(0, 1, 0, 5), 3);
        knotDue(x, true, 0, 2, 1);
        knotDue(x, true, 1, 4, 0);
        knotDue(x, true, 2, 6, 1);
        x.drop(0, 6);
        x.drop(0, 7);
        knotDue(x, true, 0, 2, 1);
        knotDue(x, true, 1, 4, 0);
        CHECK.due("two", x.count(9), 2);
        CHECK.due("advised no more", x.advise(0, 4, 5, false), 2);
        knotDue(x, true, 0, 2, 0);
        CHECK.due("none at last", x.advise(0, 2, 3, false), 2);
        CHECK.due("empty", x.count(9), 0);
    }

    /** Forty-eight pages, each unlike all others: cell 0 is i by 16, cell 1 the rest, or the other way round. */
    private static GuestPages fortyEight(boolean falling) {
        GuestPages x = Check.told("frames 48;rate 16 16;" + ALL);
        for (int i = 0; i < 48; i++) {
            int n = falling ? 47 - i : i;
            x.write(i / 12, i % 12, 0, n / 16);
            x.write(i / 12, i % 12, 1, n % 16);
        }
        CHECK.due("all used", x.count(1), 48);
        x.scan(96);
        CHECK.due("all wait", x.count(8), 48);
        return x;
    }

    private static int workOfAll() {
        int work = 0;
        for (int i = 0; i < 48; i++) {
            for (int j = 0; j < i; j++) {
                work += i / 16 == j / 16 ? 2 : 1;
            }
        }
        return work;
    }

    private static void candidatesOfAllPages() {
        GuestPages x = fortyEight(false);
        CHECK.due("how many", x.knot(0, false, -1, 0), 48);
        for (int i = 0; i < 48; i++) {
            knotDue(x, false, i, i, i);
        }
        CHECK.noSuch("no 49th", x, () -> x.knot(0, false, 48, 0));
        CHECK.due("work", x.count(13), workOfAll());
        // the first leaves: all others come up
        x.advise(0, 0, 0, false);
        knotDue(x, false, 0, 1, 0);
        knotDue(x, false, 46, 47, 46);
        x.scan(1);
        CHECK.due("the round ends: but one waits", x.count(8), 1);
    }

    private static void candidatesFallingToo() {
        GuestPages x = fortyEight(true);
        for (int i = 0; i < 48; i++) {
            knotDue(x, false, i, 47 - i, 47 - i);
        }
        CHECK.due("work", x.count(13), workOfAll());
        x.advise(3, 11, 11, false);
        knotDue(x, false, 0, 46, 46);
    }

    /** Forty-eight candidates in the order that is told, one after the other in the tree's way. */
    private static GuestPages fortyEight(int... cells) {
        GuestPages x = Check.told("frames 48;rate 16 16;" + ALL);
        for (int i = 0; i < 48; i++) {
            x.write(i / 12, i % 12, 0, cells[i] / 16);
            x.write(i / 12, i % 12, 1, cells[i] % 16);
        }
        x.scan(96);
        CHECK.due("all wait", x.count(8), 48);
        return x;
    }

    // the leftmost of all to its right: as far down as can be
    private static void leavesFarDown() {
        int[] cells = new int[48];
        for (int i = 0; i < 48; i++) {
            cells[i] = i == 0 ? 1 : i == 1 ? 0 : 49 - i;
        }
        // the root has 0 to the left, and 47, 46 .. 2 to the right, each to the left of the one ahead
        GuestPages x = fortyEight(cells);
        knotDue(x, false, 0, 1, 1);
        knotDue(x, false, 1, 0, 0);
        knotDue(x, false, 2, 47, 46);
        knotDue(x, false, 47, 2, 1);
        x.advise(0, 0, 0, false);
        knotDue(x, false, 0, 1, 1);
        knotDue(x, false, 1, 47, 0);
        knotDue(x, false, 2, 46, 45);
        knotDue(x, false, 46, 2, 1);
        for (int p = 47; p > 2; p--) {
            x.advise(p / 12, p % 12, p % 12, false);
            knotDue(x, false, 1, p - 1, 0);
            CHECK.due("so many", x.knot(0, false, -1, 0), p - 1);
        }
        x.advise(0, 2, 2, false);
        knotDue(x, false, 0, 1, 0);
    }

    /** To the left of the root each one is to the right of the one ahead: behind the last of these comes the root. */
    private static void lastOfTheLeftFarDown() {
        int[] cells = new int[48];
        for (int i = 0; i < 48; i++) {
            cells[i] = i == 0 ? 47 : i - 1;
        }
        GuestPages x = fortyEight(cells);
        for (int i = 0; i < 47; i++) {
            knotDue(x, false, i, i + 1, i + 1);
        }
        knotDue(x, false, 47, 0, 0);
        CHECK.noSuch("no 49th", x, () -> x.knot(0, false, 48, 1));
        CHECK.due("all", x.knot(0, false, -1, 0), 48);
    }

    private static void stableKnotsOfAllPages() {
        GuestPages x = Check.told("frames 48;share 2;rate 16 16;" + ALL);
        for (int i = 0; i < 48; i++) {
            x.write(i / 12, i % 12, 0, i / 32);
            x.write(i / 12, i % 12, 1, i / 2 % 16);
        }
        x.scan(48);
        CHECK.due("twenty-four pairs", x.scan(48), 24);
        CHECK.due("twenty-four knots", x.count(9), 24);
        CHECK.due("none waits", x.count(8), 0);
        for (int i = 0; i < 24; i++) {
            knotDue(x, true, i, 2 * i, i);
        }
        CHECK.noSuch("no 25th", x, () -> x.knot(0, true, 24, 0));
        CHECK.due("twenty-four are used", x.count(1), 24);
        CHECK.due("the risk: twenty-four free, as many can be split off", x.ideal(2), -1);
    }

    private static void aChainOfAllPages() {
        GuestPages x = Check.told("frames 48;share 2;rate 16 16;" + ALL);
        StringBuilder text = new StringBuilder();
        for (int i = 0; i < 48; i++) {
            text.append("write").append(i / 12).append(' ').append(i % 12).append(" 3 1;");
        }
        CHECK.due("all are written", Check.orders(x, text.toString()), 48);
        x.scan(48);
        CHECK.due("twenty-four pairs", x.scan(48), 24);
        CHECK.due("one knot", x.count(9), 1);
        CHECK.due("its chain", x.chain(46, -1), 24);
        for (int i = 0; i < 24; i++) {
            CHECK.due("in the order in which they came", x.chain(0, i), 2 * i);
            CHECK.due("two in each", x.frame(2 * i, -1), 2);
        }
        CHECK.noSuch("no 25th", x, () -> x.chain(0, 24));
        // the last, and one far behind, leave it and come again
        String was = Snap.of(x);
        x.drop(3, 10);
        x.drop(3, 11);
        CHECK.due("twenty-three", x.chain(0, -1), 23);
        CHECK.due("the last", x.chain(0, 22), 44);
        x.drop(3, 4);
        CHECK.due("one is left in it", x.frame(40, -1), 1);
        x.drop(3, 5);
        CHECK.due("twenty-two", x.chain(0, -1), 22);
        CHECK.due("the one ahead of it", x.chain(0, 19), 38);
        CHECK.due("the one behind it", x.chain(0, 20), 42);
        x.drop(3, 7);
        x.copy(3, 11, 0, 0);
        CHECK.due("joins the last", x.scan(48), 1);
        CHECK.due("the only one with room", x.page(3, 11, 0), 42);
        for (int i = 0; i < 7; i++) {
            x.undo();
        }
        CHECK.due("all as it was", Snap.of(x).equals(was), true);
        // the first four of the chain leave it
        for (int i = 0; i < 8; i++) {
            x.drop(0, i);
        }
        CHECK.due("twenty", x.chain(46, -1), 20);
        CHECK.due("the first", x.chain(46, 0), 8);
        knotDue(x, true, 0, 8, 0);
    }

    // For each REALM there are two trees
    private static void realmsApart() {
        GuestPages x = Check.told("guest 2;guest 2 1;guest 2 2;guest 1;page 0 0 1 0 0 0;page 1 0 1 0 0 0;page 2 0 1 0 0 0;"
                + "page 3 0 1 0 0 0;advise 0 0 0;advise 1 0 0;advise 2 0 0;advise 3 0 0;");
        x.scan(4);
        CHECK.due("only guest 3 is of guest 0's realm", x.scan(4), 1);
        CHECK.due("with guest 0's page", x.page(3, 0, 0), 0);
        CHECK.due("stable ones of 0", x.knot(0, true, -1, 0), 1);
        CHECK.due("stable ones of 1", x.knot(1, true, -1, 0), 0);
        CHECK.due("candidates of 0", x.knot(0, false, -1, 0), 0);
        CHECK.due("candidates of 1", x.knot(1, false, 0, 0), 12);
        CHECK.due("candidates of 2", x.knot(2, false, 0, 0), 24);
        CHECK.due("of all realms", x.count(8), 2);
        CHECK.due("no work among others", x.count(13), 4);
        x.copy(1, 1, 1, 0);
        x.copy(2, 1, 2, 0);
        x.advise(1, 1, 1, true);
        x.advise(2, 1, 1, true);
        x.scan(12);
        CHECK.due("knots of all", x.count(9), 3);
        CHECK.due("of 1", x.knot(1, true, 0, 1), 0);
        CHECK.due("of 2", x.knot(2, true, 0, 1), 0);
    }

    // the first ADVISED PAGE from the CURSOR on is SCANNED, and the CURSOR comes right behind it
    private static void cursorGoesRound() {
        GuestPages x = Check.told("guest 2;guest 1;guest 3;advise 0 0 1;advise 1 0 0;advise 2 0 2;");
        CHECK.due("at first", x.count(19), 0);
        for (int n = 1; n <= 20; n++) {
            x.scan(1);
            CHECK.due("behind it", x.count(19), (n - 1) % 6 + 1);
            CHECK.due("rounds ended", x.count(11), (n - 1) / 6);
        }
    }

    private static void cursorAmongFew() {
        GuestPages x = Check.told("guest 3;guest 3;advise 0 1 1;advise 1 1 1;");
        int[] cursor = {2, 5, 2, 5, 2};
        int[] rounds = {0, 0, 1, 1, 2};
        for (int n = 0; n < 5; n++) {
            x.scan(1);
            CHECK.due("cursor", x.count(19), cursor[n]);
            CHECK.due("rounds", x.count(11), rounds[n]);
        }
        x.advise(1, 1, 1, false);
        x.advise(0, 1, 1, false);
        x.advise(0, 0, 0, true);
        x.advise(1, 2, 2, true);
        CHECK.due("it stays where it is", x.count(19), 2);
        x.scan(1);
        CHECK.due("from there on", x.count(19), 6);
        CHECK.due("no round ends", x.count(11), 2);
        x.advise(1, 2, 2, false);
        x.scan(1);
        CHECK.due("one ahead of there", x.count(19), 1);
        CHECK.due("the round ends", x.count(11), 3);
        x.scan(1);
        CHECK.due("each scan is a round", x.count(11), 4);
        CHECK.due("cursor", x.count(19), 1);
        x.advise(0, 1, 1, true);
        x.scan(1);
        CHECK.due("right at the cursor: no round ends", x.count(11), 4);
        CHECK.due("cursor", x.count(19), 2);
    }

    // If no PAGE is ADVISED, nothing is done
    private static void cursorWithoutAny() {
        GuestPages x = Check.told("guest 3;page 0 0 1 0 0 0;advise 0 0 0;");
        x.scan(2);
        x.advise(0, 0, 0, false);
        int[] due = new int[21];
        for (int what = 0; what < 21; what++) {
            due[what] = x.count(what);
        }
        x.scan(100);
        for (int what = 0; what < 21; what++) {
            CHECK.due("count " + what, x.count(what), due[what]);
        }
        x.ticks(20);
        CHECK.due("the time goes on", x.count(12), 20);
        CHECK.due("the cursor doesn't", x.count(19), 1);
        CHECK.due("nor rate", x.count(10), 1);
        CHECK.due("nor scanned", x.count(14), 2);
        CHECK.due("one that is not advised is never scanned", x.page(0, 1, 3), 0);
    }

    // first the ROUND ends: no PAGE is a CANDIDATE any more
    private static void roundEndsWhenOneIsSought() {
        GuestPages x = waiting(5, 3, 7);
        CHECK.due("the last one is scanned, but the round hasn't ended", x.count(11), 1);
        CHECK.due("all wait", x.count(8), 3);
        x.scan(1);
        CHECK.due("now it has", x.count(11), 2);
        CHECK.due("only the first waits", x.count(8), 1);
        CHECK.due("it is the root", x.knot(0, false, 0, 0), 0);
        CHECK.due("one of the others isn't any more", x.page(0, 1, 7), 0);
    }

    /** RATE behind a round in which so many of so many were ZEROED. */
    private static void rateDue(int least, int most, int rate, int scanned, int yield, int want) {
        StringBuilder text = new StringBuilder("zero;rate " + least + " " + most + ";guest12;guest12;");
        text.append("advise 0 0 ").append(Math.min(scanned, 12) - 1).append(';');
        if (scanned > 12) {
            text.append("advise 1 0 ").append(scanned - 13).append(';');
        }
        for (int i = 0; i < yield; i++) {
            text.append("page 0 ").append(i).append(" 0 0 0 0;");
        }
        GuestPages x = Check.told(text.toString());
        if (rate != least) {
            x.rate(rate);
        }
        CHECK.due("zeroed", x.scan(scanned), yield);
        CHECK.due("yield", x.count(20), yield);
        CHECK.due("as it was", x.count(10), rate);
        x.scan(1);
        CHECK.due("rate " + rate + " of " + least + " to " + most + ", " + yield + " of " + scanned, x.count(10), want);
        CHECK.due("yield begins anew", x.count(20), 0);
    }

    // twice as much, MOST at most, if YIELD, by 4, is how many were SCANNED, or more; half, cut down, LEAST at least
    private static void rateAtARoundsEnd() {
        rateDue(1, 16, 3, 4, 1, 6);
        rateDue(1, 16, 3, 5, 1, 3);
        rateDue(1, 16, 3, 3, 1, 6);
        rateDue(1, 16, 3, 8, 2, 6);
        rateDue(1, 16, 3, 9, 2, 3);
        rateDue(1, 16, 3, 7, 2, 6);
        rateDue(1, 16, 3, 24, 6, 6);
        rateDue(1, 16, 3, 24, 5, 3);
        rateDue(1, 16, 3, 12, 12, 6);
        rateDue(1, 16, 3, 1, 1, 6);
        rateDue(1, 16, 8, 4, 1, 16);
        rateDue(1, 15, 8, 4, 1, 15);
        rateDue(1, 16, 9, 4, 1, 16);
        rateDue(1, 16, 16, 4, 1, 16);
        rateDue(1, 5, 2, 4, 1, 4);
        rateDue(1, 5, 3, 4, 1, 5);
        rateDue(7, 7, 7, 4, 1, 7);
        rateDue(1, 16, 16, 4, 0, 8);
        rateDue(1, 16, 7, 4, 0, 3);
        rateDue(1, 16, 3, 1, 0, 1);
        rateDue(1, 16, 2, 4, 0, 1);
        rateDue(1, 16, 1, 4, 0, 1);
        rateDue(1, 16, 5, 4, 0, 2);
        rateDue(2, 16, 7, 4, 0, 3);
        rateDue(2, 16, 5, 4, 0, 2);
        rateDue(2, 16, 4, 4, 0, 2);
        rateDue(7, 16, 15, 4, 0, 7);
        rateDue(7, 16, 16, 4, 0, 8);
        rateDue(3, 16, 7, 4, 0, 3);
        rateDue(3, 16, 6, 4, 0, 3);
        rateDue(3, 16, 5, 4, 0, 3);
        rateDue(4, 16, 7, 4, 0, 4);
        rateDue(7, 7, 7, 4, 0, 7);
    }

    // how many were SCANNED in it: not how far the CURSOR came, not how many are ADVISED
    private static void rateByHowManyWereScanned() {
        GuestPages x = Check.told("zero;rate 1 16;guest 12;page 0 8 0 0 0 0;advise 0 8 11;");
        x.rate(3);
        CHECK.due("one of four", x.scan(4), 1);
        CHECK.due("the cursor", x.count(19), 12);
        x.scan(1);
        CHECK.due("twice as much", x.count(10), 6);
        GuestPages y = Check.told("zero;rate 1 16;guest 12;page 0 8 0 0 0 0;advise 0 7 11;");
        y.rate(3);
        CHECK.due("one of five", y.scan(5), 1);
        y.scan(1);
        CHECK.due("as it was", y.count(10), 3);
        // advised behind the scans: none of these was scanned
        GuestPages z = Check.told("zero;rate 1 16;guest 12;page 0 11 0 0 0 0;advise 0 8 11;");
        z.rate(3);
        z.scan(4);
        z.advise(0, 0, 7, true);
        z.scan(1);
        CHECK.due("twice as much", z.count(10), 6);
        // advised no more: they were scanned
        GuestPages w = Check.told("zero;rate 1 16;guest 12;page 0 11 0 0 0 0;advise 0 7 11;");
        w.rate(3);
        w.scan(5);
        w.advise(0, 7, 9, false);
        w.scan(1);
        CHECK.due("as it was", w.count(10), 3);
        // absent, merged and resting ones were scanned, too
        GuestPages v = Check.told("smart;rate 1 16;guest 5;page 0 0 1 0 0 0;page 0 1 1 0 0 0;page 0 2 5 0 0 0;advise 0 0 4;");
        v.scan(20);
        CHECK.due("it rests by the next", v.page(0, 2, 6), 1);
        v.rate(v.count(10) == 3 ? 4 : 3);
        int rate = v.count(10);
        v.drop(0, 1);
        v.copy(0, 1, 0, 0);
        CHECK.due("one joins of five", v.scan(5), 1);
        CHECK.due("it rested", v.page(0, 2, 3), 3);
        CHECK.due("half, by the round ahead", v.count(10), rate / 2);
        v.scan(1);
        CHECK.due("as it was: one of five", v.count(10), rate / 2);
    }

    // what is counted ever goes on when a ROUND ends
    private static void everIsOfAllRounds() {
        GuestPages x = Check.told("zero;rate 1 2;guest 5;page 0 0 1 0 0 0;page 0 1 1 0 0 0;page 0 2 1 0 0 0;page 0 3 0 0 0 0;"
                + "page 0 4 7 0 0 0;advise 0 0 4;");
        x.scan(10);
        x.write(0, 0, 0, 5);
        int[] ever = {12, 13, 14, 15, 16, 17, 18};
        // page 1: 4 among candidates; 2: 4 stable; 4: 1 stable
        int[] due = {0, 9, 10, 1, 1, 1, 1};
        for (int i = 0; i < ever.length; i++) {
            CHECK.due("count " + ever[i], x.count(ever[i]), due[i]);
        }
        CHECK.due("rounds", x.count(11), 1);
        for (int n = 0; n < 15; n++) {
            int[] was = new int[ever.length];
            for (int i = 0; i < ever.length; i++) {
                was[i] = x.count(ever[i]);
            }
            x.scan(1);
            for (int i = 0; i < ever.length; i++) {
                CHECK.due("count " + ever[i] + " is no less", x.count(ever[i]) >= was[i], true);
            }
        }
        CHECK.due("rounds", x.count(11), 4);
        CHECK.due("split off ever", x.count(18), 1);
        CHECK.due("zeroed ever", x.count(17), 1);
        CHECK.due("scanned ever", x.count(14), 25);
    }

    // YIELD (how many were ZEROED, JOINED, PAIRED in it)
    private static void yieldIsOfThree() {
        GuestPages x = Check.told("zero;guest 5;page 0 0 1 0 0 0;page 0 1 1 0 0 0;page 0 2 1 0 0 0;page 0 3 0 0 0 0;"
                + "page 0 4 7 0 0 0;advise 0 0 4;");
        CHECK.due("one zeroed", x.scan(5), 1);
        CHECK.due("yield", x.count(20), 1);
        x.write(0, 3, 0, 0);
        int[] yield = {0, 1, 2, 3, 3};
        for (int n = 0; n < 5; n++) {
            x.scan(1);
            CHECK.due("yield", x.count(20), yield[n]);
        }
        CHECK.due("paired ever", x.count(16), 1);
        CHECK.due("joined ever", x.count(15), 1);
        CHECK.due("zeroed ever", x.count(17), 2);
        CHECK.due("scanned ever", x.count(14), 10);
        x.scan(1);
        CHECK.due("of this round", x.count(20), 0);
    }

    private static void pageDue(GuestPages x, int p, int befell, int sum, int age, int rest) {
        CHECK.due("what befell page " + p, x.page(0, p, 3), befell);
        CHECK.due("the sum of page " + p, x.page(0, p, 4), sum);
        CHECK.due("the age of page " + p, x.page(0, p, 5), age);
        CHECK.due("the rest of page " + p, x.page(0, p, 6), rest);
    }

    // 1 ABSENT: it is; it has no SUM any more
    private static void absentFirst() {
        GuestPages x = Check.told("smart;guest 1;page 0 0 1 0 0 0;advise 0 0 0;");
        x.scan(4);
        pageDue(x, 0, 9, 343 % 64, 3, 1);
        x.drop(0, 0);
        pageDue(x, 0, 9, 343 % 64, 3, 1);
        x.scan(1);
        pageDue(x, 0, 1, -1, 0, 0);
        CHECK.due("scanned", x.count(14), 5);
        x.write(0, 0, 0, 1);
        x.scan(1);
        pageDue(x, 0, 6, 343 % 64, 0, 0);
    }

    // 2 it is MERGED already
    private static void mergedAlready() {
        GuestPages x = Check.told("guest 2;page 0 0 1 0 0 0;page 0 1 1 0 0 0;advise 0 0 1;");
        x.scan(4);
        CHECK.due("work", x.count(13), 4);
        x.scan(2);
        pageDue(x, 0, 2, 343 % 64, 0, 0);
        pageDue(x, 1, 2, 343 % 64, 0, 0);
        CHECK.due("no work", x.count(13), 4);
        x.drop(0, 1);
        x.scan(1);
        CHECK.due("alone it is merged still", x.page(0, 0, 3), 2);
        CHECK.due("alone in its frame", x.frame(0, -1), 1);
    }

    // 3 RESTS, ahead of 4 ZEROED
    private static void restsAheadOfZeroed() {
        GuestPages x = Check.told("zero;smart;guest 1;page 0 0 1 0 0 0;advise 0 0 0;");
        x.scan(4);
        x.write(0, 0, 0, 0);
        CHECK.due("it rests", x.scan(1), 0);
        pageDue(x, 0, 3, 343 % 64, 3, 0);
        CHECK.due("then it is zeroed", x.scan(1), 1);
        pageDue(x, 0, 4, -1, 0, 0);
        CHECK.due("absent", x.page(0, 0, 0), -1);
        CHECK.due("its frame is free", x.count(1), 0);
    }

    // and ahead of 5 JOINED
    private static void restsAheadOfJoined() {
        GuestPages x = Check.told("smart;guest 3;page 0 0 1 0 0 0;page 0 1 1 0 0 0;page 0 2 2 0 0 0;advise 0 0 2;");
        x.scan(12);
        pageDue(x, 2, 9, 686 % 64, 3, 1);
        x.copy(0, 2, 0, 0);
        CHECK.due("it rests", x.scan(3), 0);
        pageDue(x, 2, 3, 686 % 64, 3, 0);
        CHECK.due("then it joins", x.scan(3), 1);
        pageDue(x, 2, 5, 686 % 64, 0, 0);
    }

    // has no SUM any more: that page, whichever frame it lay in
    private static void zeroedHasNoSum() {
        GuestPages x = Check.told("zero;guest 4;page 0 3 1 0 0 0;page 0 2 2 0 0 0;page 0 0 3 0 0 0;advise 0 0 3;");
        x.scan(4);
        pageDue(x, 0, 6, 343 * 3 % 64, 0, 0);
        pageDue(x, 1, 1, -1, 0, 0);
        pageDue(x, 2, 6, 343 * 2 % 64, 0, 0);
        pageDue(x, 3, 6, 343 % 64, 0, 0);
        x.write(0, 2, 0, 0);
        CHECK.due("one", x.scan(4), 1);
        pageDue(x, 0, 9, 343 * 3 % 64, 1, 0);
        pageDue(x, 2, 4, -1, 0, 0);
        pageDue(x, 3, 9, 343 % 64, 1, 0);
        x.write(0, 3, 0, 0);
        CHECK.due("one", x.scan(4), 1);
        pageDue(x, 0, 9, 343 * 3 % 64, 2, 0);
        pageDue(x, 2, 1, -1, 0, 0);
        pageDue(x, 3, 4, -1, 0, 0);
        CHECK.due("it was no pair", x.count(16), 0);
    }

    // 4 ZEROED: ZERO is told, and its CELLS are 0
    private static void zeroedByAllCells() {
        for (int cell = 0; cell < 4; cell++) {
            GuestPages x = Check.told("zero;guest 1;page 0 0 0 0 0 0;advise 0 0 0;");
            x.write(0, 0, cell, 1);
            CHECK.due("not with one in cell " + cell, x.scan(2), 0);
            x.write(0, 0, cell, 0);
            CHECK.due("all 0", x.scan(1), 1);
        }
        GuestPages y = Check.told("guest 2;page 0 0 0 0 0 0;page 0 1 0 0 0 0;advise 0 0 1;");
        CHECK.due("zero isn't told: a pair as any other", y.scan(4), 1);
        CHECK.due("merged", y.count(5), 2);
        CHECK.due("none zeroed", y.count(17), 0);
        GuestPages z = Check.told("zero;guest 1;page 0 0 0 0 0 0;advise 0 0 0;");
        z.scan(1);
        z.scan(1);
        CHECK.due("absent then", z.page(0, 0, 3), 1);
    }

    // 5 JOINED, ahead of 6 BUSY: the SUM isn't looked at, nor kept
    private static void joinedAheadOfBusy() {
        GuestPages x = Check.told("guest 4;page 0 0 1 0 0 0;page 0 1 1 0 0 0;advise 0 0 3;");
        x.scan(8);
        x.copy(0, 2, 0, 0);
        x.write(0, 3, 0, 5);
        CHECK.due("joins at once", x.scan(4), 1);
        pageDue(x, 2, 5, -1, 0, 0);
        pageDue(x, 3, 6, 343 * 5 % 64, 0, 0);
        x.copy(0, 3, 0, 0);
        CHECK.due("its frame", x.page(0, 3, 0), 2);
        CHECK.due("joins, though its sum is another one", x.scan(4), 1);
        pageDue(x, 3, 5, 343 * 5 % 64, 0, 0);
        CHECK.due("its own frame is free", x.frame(2, -1), 0);
        CHECK.due("the last of its frame", x.frame(0, 3), 3);
    }

    /** So many like pages of twelve: with a share, how many lie in each frame at last. */
    private static void joinsBelowShare() {
        for (int share = 2; share <= 8; share++) {
            StringBuilder text = new StringBuilder("share " + share + ";guest12;advise 0 0 11;");
            for (int p = 0; p < 12; p++) {
                text.append("page 0 ").append(p).append(" 1 1 1 1;");
            }
            GuestPages x = Check.told(text.toString());
            x.scan(12);
            // in each frame the first two are paired, others join up to SHARE; one alone waits
            int frames = (12 + share - 1) / share;
            CHECK.due("share " + share, x.scan(12), 12 - frames);
            CHECK.due("used", x.count(1), frames);
            for (int i = 0; i < frames; i++) {
                CHECK.due("in frame " + i * share, x.frame(i * share, -1), Math.min(share, 12 - i * share));
            }
            boolean one = 12 % share == 1;
            CHECK.due("one waits", x.count(8), one ? 1 : 0);
            CHECK.due("one knot", x.count(9), 1);
            // the last of the first frame goes, and comes again
            x.drop(0, share - 1);
            x.copy(0, share - 1, 0, 0);
            CHECK.due("one that is not full", x.scan(12), one ? 2 : 1);
        }
        GuestPages y = Check.told("guest 6;page 0 0 1 1 1 1;page 0 1 1 1 1 1;page 0 2 1 1 1 1;page 0 3 1 1 1 1;"
                + "page 0 4 1 1 1 1;advise 0 0 4;");
        CHECK.due("4 without", y.scan(10), 3);
        CHECK.due("four in one", y.frame(0, -1), 4);
        CHECK.due("the fifth waits", y.page(0, 4, 3), 9);
    }

    // of these the one with most (of like ones the first)
    private static void joinsWhereMostAre() {
        StringBuilder text = new StringBuilder("share 4;guest12;guest2;advise 0 0 11;advise 1 0 1;");
        for (int p = 0; p < 12; p++) {
            text.append("page 0 ").append(p).append(" 1 1 1 1;");
        }
        GuestPages x = Check.told(text.toString());
        x.scan(14);
        CHECK.due("three frames of four", x.scan(14), 9);
        x.drop(0, 0);
        x.drop(0, 1);
        x.drop(0, 4);
        x.copy(1, 0, 0, 2);
        x.scan(14);
        CHECK.due("two, three, four: the one with three", x.page(1, 0, 0), 4);
        x.drop(0, 5);
        x.drop(0, 6);
        x.copy(1, 1, 0, 2);
        x.scan(14);
        CHECK.due("two, two, four: the first", x.page(1, 1, 0), 0);
        x.drop(1, 1);
        x.drop(0, 2);
        x.copy(1, 1, 0, 3);
        x.scan(14);
        CHECK.due("one, two, four: the second", x.page(1, 1, 0), 4);
    }

    // the search has FOUND a KNOT: that one of many, in whose CHAIN there is room
    private static void joinsOneOfManyKnots() {
        int[] cells = {5, 3, 7, 9, 1};
        StringBuilder text = new StringBuilder("share 3;guest 10;guest 6;advise 0 0 9;advise 1 0 5;");
        for (int i = 0; i < 5; i++) {
            text.append("page 0 ").append(i).append(' ').append(cells[i]).append(" 0 0 0;");
            text.append("page 0 ").append(i + 5).append(' ').append(cells[i]).append(" 0 0 0;");
        }
        GuestPages x = Check.told(text.toString());
        x.scan(16);
        CHECK.due("five pairs", x.scan(16), 5);
        CHECK.due("five knots", x.count(9), 5);
        for (int i = 0; i < 5; i++) {
            x.copy(1, i, 0, i);
            CHECK.due("it joins", x.scan(16), 1);
            CHECK.due("where its like lie", x.page(1, i, 0), x.page(0, i, 0));
            CHECK.due("joined", x.page(1, i, 3), 5);
            CHECK.due("three", x.frame(x.page(0, i, 0), -1), 3);
            // that is full now: another one can't join
            x.copy(1, 5, 0, i);
            CHECK.due("busy first", x.scan(16), 0);
            CHECK.due("busy", x.page(1, 5, 3), 6);
            CHECK.due("then it waits", x.scan(16) + x.page(1, 5, 3), 9);
            x.drop(1, 5);
            x.scan(16);
        }
        CHECK.due("joined ever", x.count(15), 5);
        CHECK.due("five knots still", x.count(9), 5);
    }

    // 6 BUSY, ahead of 7 HIDDEN
    private static void busyAheadOfHidden() {
        GuestPages x = Check.told("guest 2;page 0 0 1 0 0 0;page 0 1 2 0 0 0;advise 0 0 1;");
        x.scan(3);
        x.drop(0, 0);
        x.write(0, 1, 0, 3);
        x.scan(1);
        pageDue(x, 1, 6, 343 * 3 % 64, 0, 0);
        CHECK.due("it isn't a candidate", x.page(0, 1, 7), 0);
    }

    private static void sumDue(int a, int b, int c, int d, int want) {
        GuestPages x = Check.told("guest 1;page 0 0 " + a + " " + b + " " + c + " " + d + ";advise 0 0 0;");
        x.scan(1);
        pageDue(x, 0, 6, want, 0, 0);
        x.scan(1);
        pageDue(x, 0, 9, want, 1, 0);
    }

    // (343 by CELL 0, 49 by CELL 1, 7 by CELL 2, and CELL 3) MOD 64; or it has none
    private static void sumsAtTheirEdges() {
        sumDue(0, 0, 0, 0, 0);
        sumDue(1, 0, 0, 0, 23);
        sumDue(0, 1, 0, 0, 49);
        sumDue(0, 0, 1, 0, 7);
        sumDue(0, 0, 0, 1, 1);
        sumDue(0, 1, 2, 0, 63);
        sumDue(0, 1, 2, 1, 0);
        sumDue(0, 0, 8, 8, 0);
        sumDue(0, 0, 8, 7, 63);
        sumDue(15, 15, 15, 15, 6000 % 64);
        // another one with the same sum isn't BUSY; with another sum it is, and back again
        GuestPages x = Check.told("guest 1;page 0 0 0 0 1 0;advise 0 0 0;");
        x.scan(2);
        x.write(0, 0, 2, 0);
        x.write(0, 0, 3, 7);
        x.scan(1);
        pageDue(x, 0, 9, 7, 2, 0);
        x.write(0, 0, 3, 8);
        x.scan(1);
        pageDue(x, 0, 6, 8, 0, 0);
        x.write(0, 0, 3, 7);
        x.scan(1);
        pageDue(x, 0, 6, 7, 0, 0);
        // written and back between two scans, it isn't
        x.write(0, 0, 3, 9);
        x.write(0, 0, 3, 7);
        x.scan(1);
        pageDue(x, 0, 9, 7, 1, 0);
        // dropped and written again between two scans, it isn't either
        x.drop(0, 0);
        x.write(0, 0, 3, 7);
        x.scan(1);
        pageDue(x, 0, 9, 7, 2, 0);
    }

    // 7 HIDDEN: the search comes to one that is ABSENT: it ends there
    private static void hiddenAtTheRootAndBelow() {
        GuestPages x = Check.told("guest 4;page 0 0 5 0 0 0;page 0 1 3 0 0 0;page 0 2 2 0 0 0;page 0 3 7 0 0 0;advise 0 0 3;");
        x.scan(6);
        x.drop(0, 1);
        CHECK.due("work", x.count(13), 1);
        x.scan(1);
        CHECK.due("hidden below the root", x.page(0, 2, 3), 7);
        CHECK.due("its age", x.page(0, 2, 5), 1);
        CHECK.due("compared with the root alone", x.count(13), 2);
        CHECK.due("it isn't inserted", x.count(8), 2);
        x.scan(1);
        CHECK.due("the other side isn't hidden", x.page(0, 3, 3), 9);
        CHECK.due("compared with the root", x.count(13), 3);
        // ABSENT is looked at ahead of what it is like: 0 would be FOUND
        GuestPages y = Check.told("guest 2;page 0 0 0 0 0 0;page 0 1 0 0 0 0;advise 0 0 1;");
        y.scan(3);
        y.drop(0, 0);
        CHECK.due("not found", y.scan(1), 0);
        CHECK.due("hidden", y.page(0, 1, 3), 7);
        // written again, it is there again
        GuestPages z = Check.told("guest 2;page 0 0 5 0 0 0;page 0 1 3 0 0 0;advise 0 0 1;");
        z.scan(3);
        z.drop(0, 0);
        z.copy(0, 0, 0, 1);
        CHECK.due("found by what it is now", z.scan(1), 1);
    }

    // it is COMPARED by what its CELLS are then, though they were others when it was INSERTED
    private static void pairedByWhatItsCellsAre() {
        GuestPages x = Check.told("guest 2;page 0 0 5 0 0 0;page 0 1 3 0 0 0;advise 0 0 1;");
        x.scan(3);
        x.copy(0, 0, 0, 1);
        CHECK.due("found", x.scan(1), 1);
        CHECK.due("what befell the candidate stays", x.page(0, 0, 3), 9);
        CHECK.due("its sum, too", x.page(0, 0, 4), 343 * 5 % 64);
        CHECK.due("it is a candidate no more", x.page(0, 0, 7), 0);
        CHECK.due("behind the other one", x.frame(0, 1), 1);
        CHECK.due("its own frame is free", x.frame(1, -1), 0);
        // one that was like, and is no more, is missed
        GuestPages y = Check.told("guest 2;page 0 0 3 0 0 0;page 0 1 3 0 0 0;advise 0 0 1;");
        y.scan(3);
        y.write(0, 0, 0, 5);
        CHECK.due("missed", y.scan(1), 0);
        CHECK.due("it waits", y.page(0, 1, 3), 9);
        knotDue(y, false, 0, 1, 1);
    }

    // the last of the CHAIN of the KNOT that 5 has FOUND
    private static void pairedAtTheChainsEnd() {
        GuestPages x = Check.told("share 2;guest 6;page 0 0 1 0 0 0;page 0 1 1 0 0 0;page 0 2 1 0 0 0;page 0 3 9 0 0 0;"
                + "page 0 4 1 0 0 0;advise 0 0 5;");
        x.scan(6);
        CHECK.due("two pairs", x.scan(6), 2);
        CHECK.due("one knot", x.count(9), 1);
        CHECK.due("a chain of two", x.chain(0, -1), 2);
        CHECK.due("the last", x.chain(0, 1), 2);
        CHECK.due("the candidate's frame, the other one behind it", x.frame(2, 1), 4);
        // page 1: 4 among candidates; 2: 4 stable; 3: 1 stable; 4: 4 stable and 4 among candidates, the root
        CHECK.due("work", x.count(13), 4 + 4 + 1 + 1 + 4 + 4);
    }

    // AGE: 0 at first, one more by 9; REST 0 below 3, 1 below 5, 2 below 8, else 4; RESTS: that is one less
    private static void agesAndRests() {
        int[] rest = {0, 0, 0, 1, 1, 2, 2, 2, 4, 4, 4, 4};
        GuestPages x = Check.told("smart;guest 1;page 0 0 1 0 0 0;advise 0 0 0;");
        GuestPages y = Check.told("guest 1;page 0 0 1 0 0 0;advise 0 0 0;");
        x.scan(1);
        y.scan(1);
        for (int age = 1; age < rest.length; age++) {
            x.scan(1);
            y.scan(1);
            pageDue(x, 0, 9, 23, age, rest[age]);
            pageDue(y, 0, 9, 23, age, rest[age]);
            for (int left = rest[age] - 1; left >= 0; left--) {
                x.scan(1);
                pageDue(x, 0, 3, 23, age, left);
                CHECK.due("it isn't a candidate", x.count(8), 0);
            }
        }
        x.scan(4);
        CHECK.due("all scans count", x.count(14) > 30, true);
    }

    // one more by 7, too
    private static void agesOfHidden() {
        int[] rest = {0, 0, 0, 1, 1, 2, 2, 2, 4, 4};
        GuestPages x = Check.told("guest 2;page 0 0 5 0 0 0;page 0 1 3 0 0 0;advise 0 0 1;");
        x.scan(2);
        for (int age = 1; age < rest.length; age++) {
            x.scan(1);
            x.drop(0, 0);
            x.scan(1);
            pageDue(x, 1, 7, 343 * 3 % 64, age, rest[age]);
            x.write(0, 0, 0, 5);
        }
        x.write(0, 1, 1, 1);
        x.scan(2);
        pageDue(x, 1, 6, (343 * 3 + 49) % 64, 0, 0);
    }

    // By PAIRED AGE and REST of the CANDIDATE are 0, too
    private static void pairedCandidatesAge() {
        GuestPages x = Check.told("guest 2;page 0 0 5 0 0 0;page 0 1 3 0 0 0;advise 0 0 1;");
        x.scan(11);
        pageDue(x, 0, 9, 343 * 5 % 64, 5, 2);
        pageDue(x, 1, 9, 343 * 3 % 64, 4, 1);
        x.write(0, 0, 0, 3);
        CHECK.due("paired", x.scan(1), 1);
        pageDue(x, 0, 9, 343 * 5 % 64, 0, 0);
        pageDue(x, 1, 8, 343 * 3 % 64, 0, 0);
    }

    // A TICK: as many SCANS as RATE is at its beginning; the TIME is one more
    private static void ticksOfRate() {
        GuestPages x = Check.told("rate 1 16;guest 3;page 0 0 1 0 0 0;advise 0 0 2;");
        x.rate(16);
        x.ticks(1);
        CHECK.due("sixteen scans", x.count(14), 16);
        CHECK.due("five rounds ended", x.count(11), 5);
        CHECK.due("rate is one by then", x.count(10), 1);
        CHECK.due("the time", x.count(12), 1);
        x.ticks(2);
        CHECK.due("one scan each", x.count(14), 18);
        GuestPages y = Check.told("zero;rate 1 16;guest 1;page 0 0 0 0 0 0;advise 0 0 0;");
        y.ticks(1);
        CHECK.due("one", y.count(14), 1);
        y.write(0, 0, 0, 0);
        y.ticks(1);
        CHECK.due("one, though rate is twice as much then", y.count(14), 2);
        CHECK.due("two", y.count(10), 2);
        y.write(0, 0, 0, 0);
        y.ticks(1);
        CHECK.due("two", y.count(14), 4);
    }
}
