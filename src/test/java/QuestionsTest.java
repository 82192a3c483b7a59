/** Promises 6 to 13 (how it stands), and what befalls pages that are scanned. */
public final class QuestionsTest {
    private static final Check CHECK = new Check();

    /** Two that are like, another one, an absent one. */
    private static final String FEW = "frames 6;share 2;guest 4;page 0 0 1 0 0 0;page 0 1 1 0 0 0;page 0 2 2 0 0 0;"
            + "advise 0 0 3;";

    public static void main(String[] args) {
        counts();
        guests();
        reads();
        pages();
        frames();
        chains();
        knots();
        likes();
        joinsTheFullest();
        rounds();
        rests();
        sums();
        hidden();
        stays();
        CHECK.end();
    }

    private static void counts() {
        GuestPages x = Check.told(FEW);
        CHECK.due("eight scans pair once", x.scan(8), 1);
        int[] due = {6, 2, 1, 1, 4, 2, 1, 4, 1, 1, 1, 1, 0, 5, 8, 0, 1, 0, 0, 4, 1, 2, 1, 0, 0, 0, 0, 0};
        for (int what = 0; what < due.length; what++) {
            CHECK.due("count " + what, x.count(what), due[what]);
        }
        CHECK.due("a tick", x.ticks(1), 1);
        CHECK.due("rate is twice as much", x.count(10), 2);
        CHECK.due("two rounds ended", x.count(11), 2);
        CHECK.due("yield begins anew", x.count(20), 0);
        CHECK.due("cursor", x.count(19), 1);
        CHECK.noSuch("count(-1)", () -> x.count(-1));
        CHECK.noSuch("count(28)", () -> x.count(28));
        CHECK.noSuch("count(least)", () -> x.count(Integer.MIN_VALUE));
        CHECK.noSuch("count(most)", () -> x.count(Integer.MAX_VALUE));
    }

    private static void guests() {
        GuestPages x = Check.told(FEW + "guest 2 1;advise 1 1 1;");
        x.scan(10);
        int[] due = {4, 0, 1, 2, 4, 2};
        for (int what = 0; what < due.length; what++) {
            CHECK.due("guest 0, " + what, x.guest(0, what), due[what]);
        }
        int[] other = {2, 1, 2, 0, 1, 0};
        for (int what = 0; what < other.length; what++) {
            CHECK.due("guest 1, " + what, x.guest(1, what), other[what]);
        }
        CHECK.noSuch("guest(2, 0)", () -> x.guest(2, 0));
        CHECK.noSuch("guest(-1, 0)", () -> x.guest(-1, 0));
        CHECK.noSuch("guest(0, 6)", () -> x.guest(0, 6));
        CHECK.noSuch("guest(0, -1)", () -> x.guest(0, -1));
    }

    private static void reads() {
        GuestPages x = Check.told("guest 2;page 0 0 1 2 3 15;");
        int[] due = {1, 2, 3, 15};
        for (int cell = 0; cell < 4; cell++) {
            CHECK.due("read " + cell, x.read(0, 0, cell), due[cell]);
            CHECK.due("read absent " + cell, x.read(0, 1, cell), 0);
        }
        CHECK.noSuch("cell 4", () -> x.read(0, 0, 4));
        CHECK.noSuch("cell -1", () -> x.read(0, 0, -1));
        CHECK.noSuch("page 2", () -> x.read(0, 2, 0));
        CHECK.noSuch("page -1", () -> x.read(0, -1, 0));
        CHECK.noSuch("guest 1", () -> x.read(1, 0, 0));
        CHECK.noSuch("guest -1", () -> x.read(-1, 0, 0));
    }

    private static void pageDue(GuestPages x, int page, int... due) {
        for (int what = 0; what < due.length; what++) {
            CHECK.due("page " + page + ", " + what, x.page(0, page, what), due[what]);
        }
    }

    private static void pages() {
        GuestPages x = Check.told(FEW);
        pageDue(x, 0, 0, 0, 1, 0, -1, 0, 0, 0);
        pageDue(x, 3, -1, 0, 1, 0, -1, 0, 0, 0);
        x.scan(5);
        // 343 MOD 64 is 23, 686 MOD 64 is 46
        pageDue(x, 0, 0, 0, 1, 9, 23, 1, 0, 1);
        pageDue(x, 1, 1, 0, 1, 6, 23, 0, 0, 0);
        pageDue(x, 2, 2, 0, 1, 6, 46, 0, 0, 0);
        pageDue(x, 3, -1, 0, 1, 1, -1, 0, 0, 0);
        x.scan(2);
        // the candidate's AGE goes, but what befell it stays
        pageDue(x, 0, 0, 1, 1, 9, 23, 0, 0, 0);
        pageDue(x, 1, 0, 1, 1, 8, 23, 0, 0, 0);
        pageDue(x, 2, 2, 0, 1, 9, 46, 1, 0, 1);
        x.scan(2);
        pageDue(x, 0, 0, 1, 1, 2, 23, 0, 0, 0);
        pageDue(x, 2, 2, 0, 1, 9, 46, 1, 0, 0);
        CHECK.noSuch("page(0, 0, 8)", () -> x.page(0, 0, 8));
        CHECK.noSuch("page(0, 0, -1)", () -> x.page(0, 0, -1));
        CHECK.noSuch("page(0, 4, 0)", () -> x.page(0, 4, 0));
        CHECK.noSuch("page(1, 0, 0)", () -> x.page(1, 0, 0));
    }

    private static void frames() {
        GuestPages x = Check.told(FEW + "guest 1;page 1 0 1 0 0 0;");
        x.scan(8);
        CHECK.due("two lie in 0", x.frame(0, -1), 2);
        CHECK.due("the one that waited first", x.frame(0, 0), 0);
        CHECK.due("then the other one", x.frame(0, 1), 1);
        CHECK.due("none in 1", x.frame(1, -1), 0);
        CHECK.due("12 by the guest", x.frame(3, 0), 12);
        CHECK.noSuch("frame(0, 2)", () -> x.frame(0, 2));
        CHECK.noSuch("frame(0, -2)", () -> x.frame(0, -2));
        CHECK.noSuch("frame(1, 0)", () -> x.frame(1, 0));
        CHECK.noSuch("frame(6, -1)", () -> x.frame(6, -1));
        CHECK.noSuch("frame(-1, -1)", () -> x.frame(-1, -1));
        CHECK.noSuch("frame(0, most)", () -> x.frame(0, Integer.MAX_VALUE));
    }

    /** Six that are like, two to a frame. */
    private static GuestPages three() {
        GuestPages x = Check.told("share 2;guest 6;page 0 0 3 3 3 3;page 0 1 3 3 3 3;page 0 2 3 3 3 3;page 0 3 3 3 3 3;"
                + "page 0 4 3 3 3 3;page 0 5 3 3 3 3;advise 0 0 5;");
        CHECK.due("three pairs", x.scan(12), 3);
        return x;
    }

    private static void chains() {
        GuestPages x = three();
        CHECK.due("one knot", x.count(9), 1);
        CHECK.due("three frames", x.count(2), 3);
        for (int f = 0; f < 6; f += 2) {
            CHECK.due("the chain of " + f, x.chain(f, -1), 3);
            CHECK.due("its first", x.chain(f, 0), 0);
            CHECK.due("its last", x.chain(f, 2), 4);
        }
        CHECK.noSuch("chain(0, 3)", () -> x.chain(0, 3));
        CHECK.noSuch("chain(0, -2)", () -> x.chain(0, -2));
        CHECK.noSuch("chain(1, -1), which is free", () -> x.chain(1, -1));
        CHECK.noSuch("chain(24, -1)", () -> x.chain(24, -1));
        CHECK.noSuch("chain(-1, -1)", () -> x.chain(-1, -1));
        GuestPages y = Check.told("frames 48;guest 12;guest 1;guest 1;guest 1;");
        CHECK.noSuch("chain(48, -1)", () -> y.chain(48, -1));
        CHECK.noSuch("frame(48, -1)", () -> y.frame(48, -1));
        CHECK.noSuch("guest(4, 0)", () -> y.guest(4, 0));
        CHECK.noSuch("read(4, 0, 0)", () -> y.read(4, 0, 0));
        Check.machine(y, "guest 1;");
        CHECK.noSuch("guests of another machine", () -> y.read(1, 0, 0));
        CHECK.noSuch("pages of another machine", () -> y.read(0, 1, 0));
        x.drop(0, 0);
        CHECK.due("a merged one may have one page", x.chain(0, -1), 3);
        x.drop(0, 1);
        CHECK.due("the first frame has left", x.chain(2, 0), 2);
        CHECK.due("the knot is called by the next", x.knot(0, true, 0, 0), 2);
        CHECK.due("the knot is still there", x.count(9), 1);
        x.drop(0, 5);
        CHECK.due("written alone", x.write(0, 4, 0, 3), 3);
        CHECK.noSuch("it is own now", () -> x.chain(4, -1));
        CHECK.due("one frame is left", x.chain(2, -1), 1);
        x.drop(0, 2);
        x.drop(0, 3);
        CHECK.due("the knot has left", x.count(9), 0);
        CHECK.due("its tree is empty", x.knot(0, true, -1, 0), 0);
    }

    private static void knotDue(GuestPages x, boolean stable, int i, int which, int above) {
        CHECK.due("knot " + i, x.knot(0, stable, i, 0), which);
        CHECK.due("above knot " + i, x.knot(0, stable, i, 1), above);
    }

    private static void knots() {
        GuestPages x = Check.told("guest 6;page 0 0 5 0 0 0;page 0 1 2 0 0 0;page 0 2 8 0 0 0;page 0 3 6 0 0 0;"
                + "page 0 4 9 0 0 0;page 0 5 7 0 0 0;advise 0 0 5;");
        x.scan(12);
        CHECK.due("all wait", x.knot(0, false, -1, 99), 6);
        CHECK.due("so much work", x.count(13), 9);
        int[] which = {1, 0, 3, 5, 2, 4};
        int[] above = {1, 0, 2, 3, 1, 2};
        for (int i = 0; i < 6; i++) {
            knotDue(x, false, i, which[i], above[i]);
        }
        CHECK.due("advised no more", x.advise(0, 0, 0, false), 1);
        int[] left = {1, 3, 5, 2, 4};
        int[] now = {1, 0, 2, 1, 2};
        for (int i = 0; i < 5; i++) {
            knotDue(x, false, i, left[i], now[i]);
        }
        CHECK.due("a leaf", x.advise(0, 1, 1, false), 1);
        CHECK.due("the root, with one below", x.advise(0, 3, 3, false), 1);
        knotDue(x, false, 0, 5, 1);
        knotDue(x, false, 1, 2, 0);
        knotDue(x, false, 2, 4, 1);
        CHECK.noSuch("knot 3", () -> x.knot(0, false, 3, 0));
        CHECK.noSuch("knot -2", () -> x.knot(0, false, -2, 0));
        CHECK.noSuch("another what", () -> x.knot(0, false, 0, 2));
        CHECK.noSuch("what -1", () -> x.knot(0, false, 0, -1));
        CHECK.noSuch("realm 3", () -> x.knot(3, false, -1, 0));
        CHECK.noSuch("realm -1", () -> x.knot(-1, true, -1, 0));
        CHECK.noSuch("none stable", () -> x.knot(0, true, 0, 0));
        CHECK.due("none of another realm", x.knot(1, false, -1, 0), 0);
        stableKnots();
    }

    /** Three pairs, the middle one first: 5, then 2 and 8. */
    private static void stableKnots() {
        GuestPages x = Check.told("guest 6;page 0 0 5 0 0 0;page 0 1 5 0 0 0;page 0 2 2 0 0 0;page 0 3 2 0 0 0;"
                + "page 0 4 8 0 0 0;page 0 5 8 0 0 0;advise 0 0 5;");
        x.scan(12);
        knotDue(x, true, 0, 2, 1);
        knotDue(x, true, 1, 0, 0);
        knotDue(x, true, 2, 4, 1);
        // 5: 4 to pair; each of 2 and 8: 1 to go below 5 for both, and 4 to pair
        CHECK.due("so much work", x.count(13), 4 + 2 + 4 + 2 + 4);
        x.drop(0, 0);
        x.drop(0, 1);
        knotDue(x, true, 0, 2, 1);
        knotDue(x, true, 1, 4, 0);
    }

    private static void likes() {
        GuestPages x = Check.told("guest 3;guest 3 1;page 0 0 1 2 3 4;page 1 0 1 2 3 4;page 1 2 1 2 3 4;page 1 1 0 0 0 0;");
        CHECK.due("two are like", x.like(0, 0, -1), 2);
        CHECK.due("the first", x.like(0, 0, 0), 12);
        CHECK.due("the second", x.like(0, 0, 1), 14);
        CHECK.due("not itself", x.like(1, 0, 0), 0);
        CHECK.due("absent ones are like one of 0", x.like(1, 1, -1), 2);
        CHECK.due("and the other way round", x.like(0, 1, 1), 13);
        CHECK.noSuch("like(0, 0, 2)", () -> x.like(0, 0, 2));
        CHECK.noSuch("like(0, 0, -2)", () -> x.like(0, 0, -2));
        CHECK.noSuch("like(0, 3, -1)", () -> x.like(0, 3, -1));
    }

    private static void joinsTheFullest() {
        GuestPages x = Check.told("share 3;guest 8;page 0 0 1 1 1 1;page 0 1 1 1 1 1;page 0 2 1 1 1 1;page 0 3 1 1 1 1;"
                + "page 0 4 1 1 1 1;advise 0 0 7;");
        CHECK.due("a pair, a third, another pair", x.scan(16), 3);
        CHECK.due("three in 0", x.frame(0, -1), 3);
        CHECK.due("two in 3", x.frame(3, -1), 2);
        x.drop(0, 1);
        x.drop(0, 2);
        CHECK.due("one in 0", x.frame(0, -1), 1);
        x.copy(0, 7, 0, 0);
        CHECK.due("its cells are looked for at once, its sum isn't", x.scan(8), 1);
        CHECK.due("it lies where most are", x.page(0, 7, 0), 3);
        CHECK.due("joined", x.page(0, 7, 3), 5);
        CHECK.due("no sum by that", x.page(0, 7, 4), -1);
        CHECK.due("the last one there", x.frame(3, 2), 7);
        x.copy(0, 6, 0, 0);
        CHECK.due("the next goes to the other one", x.scan(8), 1);
        CHECK.due("which has room", x.page(0, 6, 0), 0);
        x.drop(0, 3);
        x.copy(0, 5, 0, 0);
        x.scan(8);
        CHECK.due("of like ones the first", x.page(0, 5, 0), 0);
    }

    private static void rounds() {
        GuestPages x = Check.told("rate 2 16;guest 8;page 0 0 1 0 0 0;page 0 1 1 0 0 0;advise 0 0 7;");
        x.rate(16);
        x.scan(9);
        CHECK.due("nothing yielded: half", x.count(10), 8);
        x.scan(8);
        CHECK.due("one of eight is less than a fourth", x.count(16), 1);
        CHECK.due("as it was", x.count(10), 8);
        x.scan(16);
        CHECK.due("half and half again", x.count(10), 2);
        x.scan(16);
        CHECK.due("least at least", x.count(10), 2);
        GuestPages y = Check.told("rate 1 3;guest 4;page 0 0 1 0 0 0;page 0 1 1 0 0 0;advise 0 0 3;");
        y.rate(2);
        y.scan(9);
        CHECK.due("half, then one of four: twice", y.count(10), 2);
        CHECK.due("rounds", y.count(11), 2);
        y.rate(3);
        y.write(0, 3, 3, 1);
        y.copy(0, 3, 0, 0);
        y.scan(3);
        CHECK.due("joined", y.count(20), 1);
        y.scan(1);
        CHECK.due("most at most", y.count(10), 3);
        GuestPages z = Check.told("rate 3 3;guest 4;guest 2;advise 1 0 0;advise 0 2 2;");
        CHECK.due("passes over those that are not advised", z.scan(2), 0);
        CHECK.due("right behind the last one scanned", z.count(19), 5);
        CHECK.due("no round ended", z.count(11), 0);
        z.scan(1);
        CHECK.due("a round ended", z.count(11), 1);
        CHECK.due("at the first advised", z.count(19), 3);
        z.advise(0, 2, 2, false);
        z.advise(1, 0, 0, false);
        z.scan(100);
        CHECK.due("none advised: nothing is done", z.count(14), 3);
        CHECK.due("and no round ends", z.count(11), 1);
        z.advise(0, 0, 0, true);
        z.scan(1);
        CHECK.due("one ahead of the cursor: the round ends", z.count(11), 2);
    }

    private static void rests() {
        GuestPages x = Check.told("smart;guest 1;page 0 0 1 0 0 0;advise 0 0 0;");
        x.scan(1);
        // each row: what befell, AGE, REST
        int[][] due = {{9, 1, 0}, {9, 2, 0}, {9, 3, 1}, {3, 3, 0}, {9, 4, 1}, {3, 4, 0}, {9, 5, 2}, {3, 5, 1}, {3, 5, 0},
            {9, 6, 2}, {3, 6, 1}, {3, 6, 0}, {9, 7, 2}, {3, 7, 1}, {3, 7, 0}, {9, 8, 4}, {3, 8, 3}};
        for (int i = 0; i < due.length; i++) {
            x.scan(1);
            CHECK.due("befell " + i, x.page(0, 0, 3), due[i][0]);
            CHECK.due("age " + i, x.page(0, 0, 5), due[i][1]);
            CHECK.due("rest " + i, x.page(0, 0, 6), due[i][2]);
        }
        x.write(0, 0, 0, 9);
        x.scan(3);
        CHECK.due("rests, though written", x.page(0, 0, 3), 3);
        x.scan(1);
        CHECK.due("then it is busy", x.page(0, 0, 3), 6);
        CHECK.due("its age is gone", x.page(0, 0, 5), 0);
        GuestPages y = Check.told("guest 1;page 0 0 1 0 0 0;advise 0 0 0;");
        y.scan(9);
        CHECK.due("without smart it has a rest", y.page(0, 0, 6), 4);
        CHECK.due("but waits", y.page(0, 0, 3), 9);
        y.drop(0, 0);
        y.scan(1);
        CHECK.due("absent: no rest", y.page(0, 0, 6), 0);
        CHECK.due("no sum", y.page(0, 0, 4), -1);
    }

    private static void sums() {
        GuestPages x = Check.told("zero;guest 2;page 0 0 1 2 3 4;page 0 1 0 0 0 0;advise 0 0 1;");
        x.scan(1);
        CHECK.due("466 MOD 64", x.page(0, 0, 4), 18);
        CHECK.due("zeroed", x.scan(1), 1);
        CHECK.due("it is absent", x.page(0, 1, 0), -1);
        CHECK.due("befell", x.page(0, 1, 3), 4);
        CHECK.due("ever", x.count(17), 1);
        x.write(0, 0, 1, 1);
        x.write(0, 0, 3, 11);
        x.scan(1);
        CHECK.due("343 + 49 + 21 + 11 MOD 64", x.page(0, 0, 4), 40);
        CHECK.due("busy", x.page(0, 0, 3), 6);
        GuestPages y = Check.told("guest 1;page 0 0 0 0 1 0;advise 0 0 0;");
        y.scan(1);
        y.write(0, 0, 2, 0);
        y.write(0, 0, 3, 7);
        y.scan(1);
        CHECK.due("other cells with the same sum are not busy", y.page(0, 0, 3), 9);
    }

    private static void hidden() {
        GuestPages x = Check.told("guest 3;page 0 0 5 0 0 0;page 0 1 4 0 0 0;page 0 2 4 0 0 0;advise 0 0 2;");
        x.scan(4);
        x.drop(0, 0);
        CHECK.due("nothing is found", x.scan(2), 0);
        CHECK.due("hidden", x.page(0, 1, 3), 7);
        CHECK.due("it has grown older", x.page(0, 1, 5), 1);
        CHECK.due("it isn't a candidate", x.page(0, 1, 7), 0);
        CHECK.due("the dropped one is", x.page(0, 0, 7), 1);
        CHECK.due("without work", x.count(13), 0);
        x.undo();
        x.undo();
        x.write(0, 0, 0, 3);
        CHECK.due("compared by what its cells are", x.scan(2), 1);
        CHECK.due("both go to the right", x.count(13), 1 + 1 + 4);
    }

    /** A candidate that is written stays where it is, so that a search may miss. */
    private static void stays() {
        GuestPages x = Check.told("guest 4;page 0 0 5 0 0 0;page 0 1 3 0 0 0;page 0 2 7 0 0 0;page 0 3 3 0 0 0;"
                + "advise 0 0 3;");
        x.scan(7);
        knotDue(x, false, 0, 1, 1);
        x.write(0, 0, 0, 2);
        CHECK.due("3 is sought to the right of 2", x.scan(1), 0);
        CHECK.due("it waits", x.page(0, 3, 3), 9);
        knotDue(x, false, 0, 1, 1);
        knotDue(x, false, 1, 0, 0);
        knotDue(x, false, 2, 3, 2);
        knotDue(x, false, 3, 2, 1);
    }
}
