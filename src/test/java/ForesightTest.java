/** Promises 22 to 34: how it goes on, whom to advise, guesses, dirt, years. */
public final class ForesightTest {
    private static final Check CHECK = new Check();

    /** Two that are like, another one, an absent one; one scan a tick at first. */
    private static final String FEW = "frames 6;share 2;guest 4;page 0 0 1 0 0 0;page 0 1 1 0 0 0;page 0 2 2 0 0 0;"
            + "advise 0 0 3;";
    /** Two that would be like, were cell 0 of page 1 as that of page 0. */
    private static final String TWO = "guest 2;page 0 0 1 0 0 0;page 0 1 2 0 0 0;advise 0 0 1;";

    public static void main(String[] args) {
        thens();
        quiets();
        merging();
        ideals();
        risks();
        probes();
        whomToAdvise();
        howFast();
        notes();
        guesses();
        looks();
        dirts();
        years();
        yearsWithoutRoom();
        nothingChanges();
        CHECK.end();
    }

    private static void thens() {
        GuestPages x = Check.told(FEW);
        // each row: ticks, what, what is due
        int[][] due = {{0, 0, 3}, {5, 0, 3}, {6, 0, 2}, {60, 0, 2}, {5, 1, 0}, {6, 1, 2}, {4, 2, 0}, {5, 2, 1}, {6, 2, 0},
            {7, 2, 1}, {8, 3, 1}, {9, 3, 2}, {5, 4, 0}, {6, 4, 4}, {7, 4, 5}, {4, 5, 0}, {5, 5, 1}, {8, 5, 1}, {9, 5, 2}};
        for (int[] row : due) {
            CHECK.due("then(" + row[0] + ", " + row[1] + ")", x.then(row[0], row[1]), row[2]);
        }
        CHECK.noSuch("what 6", () -> x.then(0, 6));
        CHECK.noSuch("what -1, too many ticks", () -> x.then(61, -1));
        CHECK.illegal("61", () -> x.then(61, 0));
        CHECK.illegal("-1", () -> x.then(-1, 0));
        int[] same = {1, 5, 8, 10, 13, 11};
        for (int t = 0; t < 15; t++) {
            for (int what = 0; what < 6; what++) {
                int said = x.then(t, what);
                if (t > 0) {
                    x.ticks(t);
                }
                CHECK.due("comes so behind " + t, x.count(same[what]), said);
                if (t > 0) {
                    x.undo();
                }
            }
        }
    }

    private static void quiets() {
        GuestPages x = Check.told(FEW);
        CHECK.due("the pair comes by the 6th", x.quiet(), 6);
        x.ticks(5);
        CHECK.due("by the next", x.quiet(), 1);
        x.ticks(1);
        CHECK.due("at once", x.quiet(), 0);
        CHECK.due("without guests", new GuestPages().quiet(), 0);
        GuestPages y = Check.told("zero;rate 1 1;guest 12;guest 12;guest 12;guest 12;page 3 11 0 0 0 0;advise 0 0 11;"
                + "advise 1 0 11;advise 2 0 11;advise 3 0 11;");
        CHECK.due("zeroed by the 48th", y.quiet(), 48);
        y.write(3, 11, 0, 1);
        y.write(0, 11, 0, 0);
        CHECK.due("zeroed by the 12th", y.quiet(), 12);
        y.scan(1);
        y.drop(0, 11);
        y.write(0, 0, 0, 0);
        y.ticks(1);
        y.ticks(1);
        CHECK.due("zeroed by the 46th, the first of the next round", y.quiet(), 46);
        upToTheLast();
    }

    /** Forty-eight pages, one scan a tick: the 13th and the 15th are like and pair in the second round. */
    private static void upToTheLast() {
        GuestPages x = Check.told("rate 1 1;frames 48;guest 12;guest 12;guest 12;guest 12;page 1 0 13 0 0 0;"
                + "page 1 2 13 0 0 0;advise 0 0 11;advise 1 0 11;advise 2 0 11;advise 3 0 11;");
        CHECK.due("the 63rd is too late", x.quiet(), 0);
        x.ticks(2);
        CHECK.due("the 61st, too", x.quiet(), 0);
        x.ticks(1);
        CHECK.due("the 60th is not", x.quiet(), 60);
        CHECK.due("two by then", x.then(60, 1), 2);
        CHECK.due("none ahead of it", x.then(59, 1), 0);
    }

    private static void merging() {
        GuestPages x = Check.told(FEW);
        CHECK.due("the one that waits", x.merges(0, 0), 6);
        CHECK.due("the other one", x.merges(0, 1), 6);
        CHECK.due("none", x.merges(0, 2), -1);
        CHECK.due("absent", x.merges(0, 3), -1);
        x.scan(6);
        CHECK.due("it is already", x.merges(0, 0), 0);
        x.rate(8);
        x.undo();
        x.undo();
        x.rate(8);
        CHECK.due("scans, not ticks", x.merges(0, 0), 6);
        mergingAtTheLast();
        CHECK.noSuch("page 4", () -> x.merges(0, 4));
        CHECK.noSuch("guest 1", () -> x.merges(1, 0));
    }

    /** Two that come to be like, but rest at other times: nine rounds go by before both are awake at once. */
    private static void mergingAtTheLast() {
        GuestPages x = Check.told("smart;guest 12;guest 12;guest 12;guest 12;advise 0 0 11;advise 1 0 11;advise 2 0 11;"
                + "advise 3 0 11;page 3 10 0 0 1 0;page 3 11 0 0 0 7;");
        Check.orders(x, "scan 48;".repeat(4) + "drop 3 11;scan 48;write 3 11 3 7;" + "scan 48;".repeat(8));
        // with the same sum as the other one's
        Check.orders(x, "write 3 11 2 1;write 3 11 3 0;scan 31;");
        CHECK.due("the 401st is too late", x.merges(3, 11), -1);
        x.scan(1);
        CHECK.due("the 400th is not", x.merges(3, 11), 400);
        CHECK.due("nor for the other one", x.merges(3, 10), 400);
        Check.orders(x, "scan 100;scan 100;scan 100;scan 99;");
        CHECK.due("the last but one", x.merges(3, 10), 1);
        CHECK.due("so it comes", x.scan(1), 1);
    }

    private static void ideals() {
        GuestPages x = Check.told(FEW);
        CHECK.due("ideal", x.ideal(0), 2);
        CHECK.due("lost", x.ideal(1), 1);
        x.scan(8);
        CHECK.due("ideal stays", x.ideal(0), 2);
        CHECK.due("nothing lost", x.ideal(1), 0);
        CHECK.noSuch("what 3", () -> x.ideal(3));
        CHECK.noSuch("what -1", () -> x.ideal(-1));
        String five = "guest 7;page 0 0 1 1 1 1;page 0 1 1 1 1 1;page 0 2 1 1 1 1;page 0 3 1 1 1 1;page 0 4 1 1 1 1;"
                + "page 0 5 0 0 0 0;";
        CHECK.due("not advised", Check.told(five).ideal(0), 6);
        String two = "share 2;" + five;
        CHECK.due("five by two, rounded up, and one of 0", Check.told(two + "advise 0 0 6;").ideal(0), 3 + 1);
        CHECK.due("none of 0, if zero is told", Check.told("zero;" + two + "advise 0 0 6;").ideal(0), 3);
        CHECK.due("one of 0 that isn't advised", Check.told("zero;" + two + "advise 0 0 4;").ideal(0), 3 + 1);
        CHECK.due("three by two, and three others", Check.told(two + "advise 0 0 2;").ideal(0), 2 + 3);
        CHECK.due("of a realm", Check.told("guest 1;guest 1 2;page 0 0 1 1 1 1;page 1 0 1 1 1 1;advise 0 0 0;"
                + "advise 1 0 0;").ideal(0), 2);
        CHECK.due("of guests of a realm", Check.told("guest 1 2;guest 1 2;page 0 0 1 1 1 1;page 1 0 1 1 1 1;"
                + "advise 0 0 0;advise 1 0 0;").ideal(0), 1);
    }

    private static void risks() {
        GuestPages x = Check.told("frames 2;guest 3;page 0 0 1 1 1 1;");
        CHECK.due("one is free, two are absent", x.ideal(2), 2);
        x.write(0, 1, 0, 5);
        CHECK.due("none is free", x.ideal(2), 1);
        x.copy(0, 1, 0, 0);
        x.advise(0, 0, 2, true);
        x.scan(5);
        CHECK.due("merged: one is free, one is absent, one can be split off", x.ideal(2), 2);
        CHECK.due("none, if that can't come", Check.told("frames 3;guest 3;").ideal(2), -1);
        CHECK.due("all absent", Check.told("frames 2;guest 3;").ideal(2), 3);
        CHECK.due("without guests", new GuestPages().ideal(2), -1);
    }

    private static void probes() {
        GuestPages x = Check.told(FEW);
        CHECK.due("as it is, soon", x.probe(0, 0, 0x1000, 5), 0);
        CHECK.due("as it is, paired", x.probe(0, 0, 0x1000, 6), 1);
        CHECK.due("as page 2, soon", x.probe(0, 0, 0x2000, 6), 0);
        CHECK.due("as page 2, paired", x.probe(0, 0, 0x2000, 7), 1);
        CHECK.due("the frame is full by then", x.probe(0, 2, 0x1000, 7), 0);
        CHECK.due("the lowest cell counts", x.probe(0, 1, 0x1001, 40), 0);
        CHECK.illegal("cells", () -> x.probe(0, 0, 65536, 0));
        CHECK.illegal("cells -1", () -> x.probe(0, 0, -1, 0));
        CHECK.illegal("ticks 41", () -> x.probe(0, 0, 0, 41));
        CHECK.illegal("ticks -1", () -> x.probe(0, 0, 0, -1));
        CHECK.noSuch("page, ticks 41", () -> x.probe(0, 4, 0, 41));
        CHECK.due("65535", x.probe(0, 0, 65535, 40), 0);
        GuestPages y = Check.told("zero;frames 1;guest 2;page 0 0 1 0 0 0;advise 0 0 1;");
        CHECK.due("absent by then", y.probe(0, 0, 0, 1), 0);
        CHECK.due("can't be written", y.probe(0, 1, 0, 0), -1);
    }

    private static void whomToAdvise() {
        GuestPages x = Check.told("guest 2;guest 2;page 0 0 1 0 0 0;page 0 1 2 0 0 0;page 1 0 3 0 0 0;page 1 1 3 0 0 0;");
        CHECK.due("of like ones the least", x.toAdvise(0, 0), 0);
        CHECK.due("as many as now", x.toAdvise(0, 1), 4);
        CHECK.due("too soon", x.toAdvise(3, 0), 0);
        CHECK.due("too soon: how many", x.toAdvise(3, 1), 4);
        CHECK.due("by then", x.toAdvise(4, 0), 1);
        CHECK.due("by then: how many", x.toAdvise(4, 1), 3);
        CHECK.due("far", x.toAdvise(40, 0), 1);
        CHECK.noSuch("what 2, ticks 41", () -> x.toAdvise(41, 2));
        CHECK.noSuch("what -1", () -> x.toAdvise(0, -1));
        CHECK.illegal("ticks 41", () -> x.toAdvise(41, 0));
        CHECK.illegal("ticks -1", () -> x.toAdvise(-1, 1));
        GuestPages y = new GuestPages();
        CHECK.due("no guests: which", y.toAdvise(9, 0), -1);
        CHECK.due("no guests: how many", y.toAdvise(9, 1), -1);
        CHECK.illegal("no guests, ticks 41", () -> y.toAdvise(41, 0));
    }

    private static void howFast() {
        GuestPages x = Check.told("guest 2;page 0 0 3 0 0 0;page 0 1 3 0 0 0;advise 0 0 1;");
        CHECK.due("four scans in one tick", x.toRate(1, 0), 4);
        CHECK.due("one frame", x.toRate(1, 1), 1);
        CHECK.due("four scans in two, as rate is two at the second's beginning", x.toRate(2, 0), 2);
        CHECK.due("in four one will do", x.toRate(4, 0), 1);
        CHECK.due("one frame then", x.toRate(4, 1), 1);
        x.rate(3);
        CHECK.due("whatever it is now", x.toRate(4, 0), 1);
        CHECK.noSuch("what 2, ticks 0", () -> x.toRate(0, 2));
        CHECK.noSuch("what -1", () -> x.toRate(1, -1));
        CHECK.illegal("ticks 0", () -> x.toRate(0, 0));
        CHECK.illegal("ticks 21", () -> x.toRate(21, 1));
        CHECK.due("least to most alone", Check.told("rate 3 5;").toRate(20, 0), 3);
        GuestPages y = Check.told("guest 2;page 0 0 1 0 0 0;page 0 1 2 0 0 0;advise 0 0 1;");
        y.scan(2);
        CHECK.due("none of like: least work, then the least rate", y.toRate(1, 0), 1);
        CHECK.due("two frames", y.toRate(1, 1), 2);
        GuestPages z = Check.told("share 2;rate 1 6;guest 5;page 0 0 1 0 0 0;page 0 1 1 0 0 0;page 0 2 0 0 0 0;"
                + "page 0 3 0 0 0 0;page 0 4 1 0 0 0;advise 0 0 4;");
        CHECK.due("5 and 6 use like ones, 6 with less work", z.toRate(2, 0), 6);
        for (int ticks = 1; ticks <= 8; ticks++) {
            CHECK.due("by acts, behind " + ticks, z.toRate(ticks, 0), rateByActs(z, ticks));
        }
    }

    /** The best of rates 1 to 6 by setting each and letting ticks go by. */
    private static int rateByActs(GuestPages x, int ticks) {
        int best = 0;
        int fewest = 0;
        int least = 0;
        for (int rate = 1; rate <= 6; rate++) {
            boolean set = x.rate(rate) != -1;
            x.ticks(ticks);
            int used = x.count(1);
            int work = x.count(13);
            x.undo();
            if (set) {
                x.undo();
            }
            if (best == 0 || used < fewest || used == fewest && work < least) {
                best = rate;
                fewest = used;
                least = work;
            }
        }
        return best;
    }

    private static void notes() {
        GuestPages x = Check.told(TWO);
        CHECK.due("ticks -1", x.note(-1, 0), -1);
        CHECK.due("ticks 21", x.note(21, 0), -1);
        CHECK.due("used -1", x.note(0, -1), -1);
        CHECK.due("used 49", x.note(0, 49), -1);
        for (int i = 1; i <= 8; i++) {
            CHECK.due("noted", x.note(20, 48), i);
        }
        CHECK.due("there are 8", x.note(0, 0), -1);
        CHECK.due("status 2", x.count(27), 5);
        CHECK.due("noted", x.count(23), 8);
        x.forget();
        CHECK.due("forgotten", x.count(23), 0);
        CHECK.due("status stays", x.count(27), 5);
        CHECK.due("once more", x.note(0, 48), 1);
        CHECK.due("no acts", x.count(22), 0);
        CHECK.due("as little as can be", x.note(0, 0), 2);
    }

    private static void guesses() {
        GuestPages x = Check.told(TWO);
        CHECK.due("nothing noted: all others", x.guess(0, 1, 0, 0), 15);
        CHECK.due("the first", x.guess(0, 1, 0, 1), 0);
        CHECK.due("the first is not what it is", x.guess(0, 1, 1, 1), 1);
        CHECK.due("so without", x.guess(0, 1, 0, 2), 1);
        x.note(4, 1);
        CHECK.due("one explains it", x.guess(0, 1, 0, 0), 1);
        CHECK.due("which", x.guess(0, 1, 0, 1), 1);
        CHECK.due("not so without", x.guess(0, 1, 0, 2), 0);
        CHECK.due("page 0 could be 2", x.guess(0, 0, 0, 1), 2);
        CHECK.due("no other cell", x.guess(0, 0, 3, 0), 0);
        CHECK.due("none", x.guess(0, 0, 3, 1), -1);
        x.note(3, 1);
        CHECK.due("all must be so", x.guess(0, 1, 0, 0), 0);
        CHECK.noSuch("cell 4", () -> x.guess(0, 0, 4, 0));
        CHECK.noSuch("what 3", () -> x.guess(0, 0, 0, 3));
        CHECK.noSuch("what -1", () -> x.guess(0, 0, 0, -1));
        CHECK.noSuch("page 2", () -> x.guess(0, 2, 0, 0));
        GuestPages y = Check.told("frames 1;guest 2;page 0 0 1 0 0 0;");
        CHECK.due("can't be written: none", y.guess(0, 1, 0, 0), 0);
        CHECK.due("can't be written: no first", y.guess(0, 1, 0, 1), -1);
        CHECK.due("so without", y.guess(0, 1, 0, 2), 1);
        CHECK.due("no look", y.look(0, 1, 0, 0), -1);
        CHECK.due("nothing unlike", y.look(0, 1, 0, 1), 0);
    }

    private static void looks() {
        GuestPages x = Check.told(TWO);
        CHECK.due("1 would have been merged by the 4th", x.look(0, 1, 0, 0), 4);
        CHECK.due("two unlike", x.look(0, 1, 0, 1), 2);
        CHECK.due("cell 3: all alike, the first", x.look(0, 1, 3, 0), 1);
        CHECK.due("cell 3: one", x.look(0, 1, 3, 1), 1);
        x.note(20, 1);
        CHECK.due("one guess is left", x.look(0, 1, 0, 0), 1);
        CHECK.due("one is like itself", x.look(0, 1, 0, 1), 1);
        x.note(20, 2);
        CHECK.due("no guess", x.look(0, 1, 0, 0), -1);
        CHECK.due("none unlike", x.look(0, 1, 0, 1), 0);
        GuestPages y = Check.told("rate 1 1;guest 2;page 0 0 15 0 0 0;page 0 1 2 0 0 0;advise 0 0 1;");
        CHECK.due("the guess 15 counts", y.look(0, 1, 0, 0), 4);
        GuestPages z = Check.told("rate 1 1;guest 11;page 0 0 1 0 0 0;page 0 8 2 0 0 0;advise 0 0 10;");
        CHECK.due("up to the 20th", z.look(0, 8, 0, 0), 20);
        CHECK.due("two unlike there", z.look(0, 8, 0, 1), 2);
        GuestPages w = Check.told("rate 1 1;guest 11;page 0 0 1 0 0 0;page 0 9 2 0 0 0;advise 0 0 10;");
        CHECK.due("the 21st is too late", w.look(0, 9, 0, 0), 1);
        CHECK.due("none unlike up to there", w.look(0, 9, 0, 1), 1);
        CHECK.noSuch("cell -1", () -> x.look(0, 0, -1, 0));
        CHECK.noSuch("what 2", () -> x.look(0, 0, 0, 2));
        CHECK.noSuch("guest 1", () -> x.look(1, 0, 0, 0));
    }

    private static void dirts() {
        GuestPages x = Check.told("guest 2;page 0 0 1 0 0 0;page 0 1 1 0 0 0;advise 0 0 1;");
        CHECK.due("merged by the 4th only if never written", x.dirt(0, 1, 4, 3, 1), 7 * 7 * 7 * 7);
        CHECK.due("at most two in any case", x.dirt(0, 1, 4, 3, 2), 10000);
        CHECK.due("never written", x.dirt(0, 1, 4, 0, 1), 10000);
        CHECK.due("always written", x.dirt(0, 1, 4, 10, 1), 0);
        CHECK.due("too soon", x.dirt(0, 1, 3, 0, 1), 0);
        CHECK.due("below 0", x.dirt(0, 1, 1, 5, -7), 0);
        CHECK.due("as much as may be", x.dirt(0, 1, 1, 5, Integer.MAX_VALUE), 10);
        x.ticks(4);
        CHECK.due("split off by the first", x.dirt(0, 0, 1, 4, 1), 6);
        // page 0, alone again or split off, is 2: never merged within four
        CHECK.due("never once", x.dirt(0, 0, 2, 4, 1), 36);
        CHECK.illegal("ticks 0", () -> x.dirt(0, 0, 0, 1, 1));
        CHECK.illegal("ticks 5", () -> x.dirt(0, 0, 5, 1, 1));
        CHECK.illegal("tenths -1", () -> x.dirt(0, 0, 1, -1, 1));
        CHECK.illegal("tenths 11", () -> x.dirt(0, 0, 1, 11, 1));
        CHECK.noSuch("page, tenths 11", () -> x.dirt(0, 2, 1, 11, 1));
        GuestPages y = Check.told("frames 1;guest 2;page 0 0 15 0 0 0;");
        CHECK.due("if it can be: it can't", y.dirt(0, 1, 4, 10, 1), 10000);
        GuestPages z = Check.told("zero;guest 1;page 0 0 15 0 0 0;advise 0 0 0;");
        CHECK.due("15 and one more is 0", z.dirt(0, 0, 1, 4, 0), 4);
    }

    /** By acts: the same draws, one tick behind each. */
    private static int[] byActs(GuestPages x, int seed, int n) {
        int[] answer = new int[3];
        int pages = x.count(4);
        int[] guestOf = new int[pages];
        int[] pageOf = new int[pages];
        int k = 0;
        for (int g = 0; g < x.count(3); g++) {
            for (int p = 0; p < x.guest(g, 0); p++) {
                guestOf[k] = g;
                pageOf[k++] = p;
            }
        }
        int laid = x.count(15) + x.count(16) + x.count(17);
        int s = seed;
        for (int t = 0; t < n; t++) {
            s = next(s);
            int kind = draw(s, 4);
            int done = 0;
            if (kind == 0) {
                s = next(s);
                int p = draw(s, pages);
                s = next(s);
                int cell = draw(s, 4);
                s = next(s);
                done = x.write(guestOf[p], pageOf[p], cell, draw(s, 4));
            } else if (kind == 1) {
                s = next(s);
                int p = draw(s, pages);
                s = next(s);
                int q = draw(s, pages);
                done = x.copy(guestOf[p], pageOf[p], guestOf[q], pageOf[q]);
            } else if (kind == 2) {
                s = next(s);
                int p = draw(s, pages);
                x.drop(guestOf[p], pageOf[p]);
            }
            answer[2] += done == -1 ? 1 : 0;
            x.ticks(1);
        }
        answer[0] = x.count(15) + x.count(16) + x.count(17) - laid;
        answer[1] = x.count(1);
        return answer;
    }

    private static int next(int seed) {
        return seed * 1103515245 + 12345;
    }

    private static int draw(int seed, int n) {
        return (int) ((seed & 0xffffffffL) >> 16 & 0x7fff) % n;
    }

    private static void yearsDue(String text, int seed, int n) {
        GuestPages x = Check.told(text);
        x.ticks(3);
        int[] said = {x.years(seed, n, 0), x.years(seed, n, 1), x.years(seed, n, 2)};
        int[] came = byActs(x, seed, n);
        for (int what = 0; what < 3; what++) {
            CHECK.due("years(" + seed + ", " + n + ", " + what + ")", said[what], came[what]);
        }
    }

    private static void years() {
        String text = "zero;guest 4;guest 3;guest 3 1;page 0 0 1 0 0 0;page 0 1 1 0 0 0;page 1 0 1 0 0 0;page 1 1 0 0 0 0;"
                + "page 2 0 1 0 0 0;advise 0 0 3;advise 1 0 2;advise 2 0 2;rate 3 9;";
        for (int seed = -3; seed < 30; seed++) {
            yearsDue(text, seed * 99991, 60);
            yearsDue("frames 5;" + text, seed, seed + 20);
        }
        GuestPages x = Check.told(text);
        CHECK.due("none go by: used", x.years(1, 0, 1), 5);
        CHECK.due("none go by: laid", x.years(1, 0, 0), 0);
        CHECK.due("without pages", new GuestPages().years(1, 60, 1), 0);
        CHECK.noSuch("what 3, n 61", () -> x.years(1, 61, 3));
        CHECK.noSuch("what -1", () -> x.years(1, 1, -1));
        CHECK.illegal("n 61", () -> x.years(1, 61, 0));
        CHECK.illegal("n -1", () -> x.years(1, -1, 0));
    }

    private static void yearsWithoutRoom() {
        GuestPages x = Check.told("frames 1;guest 12;page 0 0 1 0 0 0;");
        CHECK.due("some can't be written", x.years(7, 60, 2) > 0, true);
        yearsDue("frames 1;guest 12;page 0 0 1 0 0 0;", 7, 60);
    }

    /** What is only asked changes nothing. */
    private static void nothingChanges() {
        GuestPages x = Check.told(FEW);
        x.ticks(5);
        int[] was = new int[28];
        for (int what = 0; what < 28; what++) {
            was[what] = x.count(what);
        }
        x.then(60, 0);
        x.quiet();
        x.merges(0, 2);
        x.ideal(0);
        x.probe(0, 0, 77, 40);
        x.toAdvise(40, 0);
        x.toRate(20, 0);
        x.guess(0, 0, 0, 0);
        x.look(0, 0, 0, 0);
        x.dirt(0, 0, 4, 5, 3);
        x.years(5, 60, 0);
        for (int what = 0; what < 28; what++) {
            CHECK.due("count " + what, x.count(what), was[what]);
        }
    }
}
