import java.util.ArrayList;
import java.util.List;

/** Promises 6 to 13: the first and the last that can be asked, and those next to them that can't. */
public final class QuestionEdgesTest {
    private static final Check CHECK = new Check();
    private static final int LEAST = Integer.MIN_VALUE;
    private static final int MOST = Integer.MAX_VALUE;

    /** Guests of 12, 1, 3 pages and realms 0, 2, 0; some merged, some waiting, some absent, some not advised. */
    private static final String MIXED = "frames 20;share 2;guest 12;guest 1 2;guest 3;page 0 0 1 0 0 0;page 0 1 1 0 0 0;"
            + "page 0 2 1 0 0 0;page 0 3 2 0 0 0;page 0 11 1 0 0 0;page 1 0 1 0 0 0;page 2 0 2 0 0 0;page 2 2 9 8 7 6;"
            + "advise 0 0 11;advise 1 0 0;advise 2 0 0;";

    public static void main(String[] args) {
        countsOfNothing();
        counts();
        countsAtTheEnd();
        guests();
        guestsOfAll();
        reads();
        pages();
        frames();
        framesAreLeft();
        chains();
        chainsAreLeft();
        knots();
        likes();
        CHECK.end();
    }

    private static GuestPages mixed() {
        GuestPages x = Check.told(MIXED);
        x.scan(14);
        CHECK.due("three pairs", x.scan(14), 3);
        return x;
    }

    private static void countsDue(GuestPages x, int... due) {
        for (int what = 0; what < due.length; what++) {
            CHECK.due("count " + what, x.count(what), due[what]);
        }
    }

    private static void countsOfNothing() {
        GuestPages x = new GuestPages();
        countsDue(x, 24, 0, 0, 0, 0, 0, 0, 0, 0, 0, 1, 0, 0, 0, 0, 0, 0, 0, 0, 0, 0, 4, 0, 0, 0, 0, 0, 0);
        int[] not = {-1, 28, 29, LEAST, MOST};
        for (int what : not) {
            CHECK.noSuch("count " + what, x, () -> x.count(what));
        }
    }

    private static void counts() {
        GuestPages x = mixed();
        // pages 0 and 1, 2 and 11 of guest 0 are paired; 3 of guest 0 with 0 of guest 2; guest 1's waits
        // work: page 1: 4; 2: 4; 3: 1 and 1; 11: 4 and 4; guest 2's: 1 and 4
        countsDue(x, 20, 5, 3, 3, 16, 6, 8, 14, 1, 2, 1, 1, 0, 23, 28, 0, 3, 0, 0, 14, 3, 2, 2, 0, 0, 0, 0, 0);
        x.write(0, 0, 0, 3);
        x.note(0, 0);
        x.note(0, -1);
        x.drop(0, 5);
        Check.machine(x, "zero;!");
        x.feed(1, 2, 3, 4, 5);
        CHECK.due("used", x.count(1), 6);
        CHECK.due("merged frames stay", x.count(2), 3);
        CHECK.due("merged pages", x.count(5), 5);
        CHECK.due("split off", x.count(18), 1);
        CHECK.due("acts", x.count(22), 3);
        CHECK.due("noted", x.count(23), 1);
        CHECK.due("tape", x.count(24), 20);
        CHECK.due("STATUS 0", x.count(25), 1);
        CHECK.due("STATUS 1", x.count(26), 1);
        CHECK.due("STATUS 2", x.count(27), 1);
        for (int what = 0; what < 28; what++) {
            int w = what;
            CHECK.asks("count " + what, x, () -> x.count(w), x.count(what));
        }
    }

    // 19 the place of the CURSOR (as many as there are: behind the last one)
    private static void countsAtTheEnd() {
        GuestPages x = Check.told("guest12;guest12;guest12;guest12;advise 3 11 11;");
        CHECK.due("at first", x.count(19), 0);
        x.scan(1);
        CHECK.due("behind the last", x.count(19), 48);
        CHECK.due("no round ended", x.count(11), 0);
        x.scan(1);
        CHECK.due("behind the last again", x.count(19), 48);
        CHECK.due("a round ended", x.count(11), 1);
    }

    private static void guestDue(GuestPages x, int guest, int... due) {
        for (int what = 0; what < due.length; what++) {
            int w = what;
            CHECK.asks("guest " + guest + ", " + what, x, () -> x.guest(guest, w), due[what]);
        }
    }

    private static void guests() {
        GuestPages x = mixed();
        guestDue(x, 0, 12, 0, 7, 5, 12, 3);
        guestDue(x, 1, 1, 2, 0, 0, 1, 1);
        guestDue(x, 2, 3, 0, 1, 1, 1, 2);
        int[] not = {-1, 3, 4, LEAST, MOST};
        for (int guest : not) {
            CHECK.noSuch("guest " + guest, x, () -> x.guest(guest, 0));
            CHECK.noSuch("guest " + guest + ", another what", x, () -> x.guest(guest, 6));
        }
        int[] no = {-1, 6, 7, LEAST, MOST};
        for (int what : no) {
            CHECK.noSuch("what " + what, x, () -> x.guest(2, what));
        }
        GuestPages y = new GuestPages();
        CHECK.noSuch("no guests", y, () -> y.guest(0, 0));
    }

    private static void guestsOfAll() {
        GuestPages x = Check.told("frames 48;guest12;guest12 1;guest12 2;guest12;");
        for (int i = 0; i < 48; i++) {
            x.write(i / 12, i % 12, 0, 1);
        }
        for (int guest = 0; guest < 4; guest++) {
            guestDue(x, guest, 12, guest % 3, 0, 0, 0, 12);
        }
        CHECK.noSuch("no fifth", x, () -> x.guest(4, 0));
    }

    // promise 8: NoSuchElementException: no such PAGE, CELL
    private static void reads() {
        GuestPages x = mixed();
        int[] due = {9, 8, 7, 6};
        for (int cell = 0; cell < 4; cell++) {
            int c = cell;
            CHECK.asks("own", x, () -> x.read(2, 2, c), due[cell]);
            CHECK.asks("merged", x, () -> x.read(0, 11, c), cell == 0 ? 1 : 0);
            CHECK.asks("absent", x, () -> x.read(2, 1, c), 0);
        }
        int[] cells = {-1, 4, LEAST, MOST};
        for (int cell : cells) {
            CHECK.noSuch("cell " + cell, x, () -> x.read(0, 0, cell));
        }
        int[] pages = {-1, 12, LEAST, MOST};
        for (int page : pages) {
            CHECK.noSuch("page " + page, x, () -> x.read(0, page, 0));
        }
        CHECK.noSuch("page 1 of one", x, () -> x.read(1, 1, 0));
        CHECK.noSuch("page 3 of three", x, () -> x.read(2, 3, 0));
        CHECK.noSuch("page -1 of another guest than the first", x, () -> x.read(1, -1, 0));
        int[] guests = {-1, 3, 4, LEAST, MOST};
        for (int guest : guests) {
            CHECK.noSuch("guest " + guest, x, () -> x.read(guest, 0, 0));
        }
        // a page that is dropped has 0, though its frame had others
        x.drop(2, 2);
        CHECK.due("dropped", x.read(2, 2, 0), 0);
        x.write(2, 1, 3, 5);
        CHECK.due("the frame is all 0 at first", x.read(2, 1, 0), 0);
    }

    // promise 9: 0 to 7
    private static void pages() {
        GuestPages x = mixed();
        int[][] due = {
            {0, 0, 0, 1, 1, 9, 23, 0, 0, 0}, {0, 1, 0, 1, 1, 8, 23, 0, 0, 0}, {0, 4, -1, 0, 1, 1, -1, 0, 0, 0},
            {0, 11, 2, 1, 1, 8, 23, 0, 0, 0}, {1, 0, 5, 0, 1, 9, 23, 1, 0, 1}, {2, 0, 3, 1, 1, 8, 46, 0, 0, 0},
            {2, 1, -1, 0, 0, 0, -1, 0, 0, 0}, {2, 2, 7, 0, 0, 0, -1, 0, 0, 0}};
        for (int[] row : due) {
            for (int what = 0; what < 8; what++) {
                int w = what;
                CHECK.asks("page " + row[0] + " " + row[1] + ", " + what, x, () -> x.page(row[0], row[1], w), row[what + 2]);
            }
        }
        int[] not = {-1, 8, 9, LEAST, MOST};
        for (int what : not) {
            CHECK.noSuch("what " + what, x, () -> x.page(0, 0, what));
        }
        int[] no = {-1, 12, LEAST, MOST};
        for (int page : no) {
            CHECK.noSuch("page " + page, x, () -> x.page(0, page, 0));
        }
        CHECK.noSuch("page 1 of one", x, () -> x.page(1, 1, 0));
        CHECK.noSuch("guest 3", x, () -> x.page(3, 0, 0));
        CHECK.noSuch("guest -1", x, () -> x.page(-1, 0, 0));
    }

    // promise 10: no such FRAME, no such PAGE there
    private static void frames() {
        GuestPages x = mixed();
        CHECK.asks("two", x, () -> x.frame(2, -1), 2);
        CHECK.asks("the first", x, () -> x.frame(2, 0), 2);
        CHECK.asks("the last", x, () -> x.frame(2, 1), 11);
        CHECK.asks("of guest 2", x, () -> x.frame(3, 1), 24);
        CHECK.asks("own", x, () -> x.frame(7, -1), 1);
        CHECK.asks("12 by 2, and 2", x, () -> x.frame(7, 0), 26);
        CHECK.asks("free", x, () -> x.frame(19, -1), 0);
        int[] not = {2, -2, 3, 48, LEAST, MOST};
        for (int i : not) {
            CHECK.noSuch("page " + i + " of two", x, () -> x.frame(2, i));
        }
        CHECK.noSuch("page 1 of one", x, () -> x.frame(7, 1));
        CHECK.noSuch("page 0 of none", x, () -> x.frame(19, 0));
        int[] no = {-1, 20, 21, 47, 48, LEAST, MOST};
        for (int frame : no) {
            CHECK.noSuch("frame " + frame, x, () -> x.frame(frame, -1));
            CHECK.noSuch("frame " + frame + ", 0", x, () -> x.frame(frame, 0));
        }
        GuestPages y = Check.told("frames 1;");
        CHECK.due("the only one", y.frame(0, -1), 0);
        CHECK.noSuch("no other one", y, () -> y.frame(1, -1));
        // in the order in which they came: one that goes and comes again is the last
        GuestPages z = Check.told("guest 3;page 0 0 1 0 0 0;page 0 1 1 0 0 0;page 0 2 1 0 0 0;advise 0 0 2;");
        z.scan(6);
        z.write(0, 0, 0, 1);
        z.scan(1);
        CHECK.due("the first now", z.frame(0, 0), 1);
        CHECK.due("the last now", z.frame(0, 2), 0);
    }

    // in the order in which they came: whichever leaves, the others stay in theirs
    private static void framesAreLeft() {
        for (int gone = 0; gone < 8; gone++) {
            for (int other = 0; other < 8; other++) {
                GuestPages x = Check.told("share 8;guest 8;page 0 0 1 0 0 0;page 0 1 1 0 0 0;page 0 2 1 0 0 0;"
                        + "page 0 3 1 0 0 0;page 0 4 1 0 0 0;page 0 5 1 0 0 0;page 0 6 1 0 0 0;page 0 7 1 0 0 0;"
                        + "advise 0 0 7;");
                x.scan(16);
                List<Integer> due = new ArrayList<>(List.of(0, 1, 2, 3, 4, 5, 6, 7));
                x.drop(0, gone);
                due.remove(Integer.valueOf(gone));
                rowDue(x, due);
                if (other != gone) {
                    x.write(0, other, 0, 2);
                    due.remove(Integer.valueOf(other));
                    rowDue(x, due);
                    x.copy(0, other, 0, due.get(0));
                    x.scan(8);
                    due.add(other);
                    rowDue(x, due);
                }
            }
        }
    }

    private static void rowDue(GuestPages x, List<Integer> due) {
        CHECK.due("how many", x.frame(0, -1), due.size());
        for (int i = 0; i < due.size(); i++) {
            CHECK.due("page " + i, x.frame(0, i), due.get(i));
        }
        CHECK.noSuch("no more", () -> x.frame(0, due.size()));
    }

    // in the order in which they came: whichever FRAME leaves, the others stay in theirs
    private static void chainsAreLeft() {
        for (int gone = 0; gone < 5; gone++) {
            StringBuilder text = new StringBuilder("share 2;guest 12;");
            for (int p = 0; p < 10; p++) {
                text.append("page 0 ").append(p).append(" 1 2 3 4;");
            }
            GuestPages x = Check.told(text + "advise 0 0 11;");
            x.scan(24);
            List<Integer> due = new ArrayList<>(List.of(0, 2, 4, 6, 8));
            chainDue(x, due);
            x.drop(0, 2 * gone);
            chainDue(x, due);
            if (gone % 2 == 0) {
                x.drop(0, 2 * gone + 1);
            } else {
                x.write(0, 2 * gone + 1, 0, 9);
                x.drop(0, 2 * gone + 1);
            }
            due.remove(Integer.valueOf(2 * gone));
            chainDue(x, due);
            if (gone < 4) {
                x.drop(0, 8);
                x.drop(0, 9);
                due.remove(Integer.valueOf(8));
                chainDue(x, due);
            }
            // a pair that comes later is the last, in whichever frames
            x.copy(0, 10, 0, due.get(0));
            x.copy(0, 11, 0, due.get(0));
            x.scan(24);
            due.add(x.page(0, 10, 0));
            chainDue(x, due);
        }
    }

    private static void chainDue(GuestPages x, List<Integer> due) {
        for (int frame : due) {
            CHECK.due("how many", x.chain(frame, -1), due.size());
            for (int i = 0; i < due.size(); i++) {
                CHECK.due("frame " + i, x.chain(frame, i), due.get(i));
            }
            CHECK.noSuch("no more", () -> x.chain(frame, due.size()));
        }
        CHECK.due("which", x.knot(0, true, 0, 0), due.get(0));
    }

    // promise 11: no such FRAME, it isn't MERGED, there is none
    private static void chains() {
        GuestPages x = mixed();
        CHECK.asks("two", x, () -> x.chain(0, -1), 2);
        CHECK.asks("asked by the other", x, () -> x.chain(2, -1), 2);
        CHECK.asks("the first", x, () -> x.chain(2, 0), 0);
        CHECK.asks("the last", x, () -> x.chain(0, 1), 2);
        CHECK.asks("one", x, () -> x.chain(3, -1), 1);
        CHECK.asks("itself", x, () -> x.chain(3, 0), 3);
        int[] not = {2, -2, 48, LEAST, MOST};
        for (int i : not) {
            CHECK.noSuch("frame " + i + " of two", x, () -> x.chain(0, i));
        }
        CHECK.noSuch("frame 1 of one", x, () -> x.chain(3, 1));
        CHECK.noSuch("own", x, () -> x.chain(7, -1));
        CHECK.noSuch("own, 0", x, () -> x.chain(7, 0));
        CHECK.noSuch("free", x, () -> x.chain(1, -1));
        int[] no = {-1, 20, 48, LEAST, MOST};
        for (int frame : no) {
            CHECK.noSuch("frame " + frame, x, () -> x.chain(frame, -1));
            CHECK.noSuch("frame " + frame + ", 0", x, () -> x.chain(frame, 0));
        }
    }

    // promise 12: REALM, there is none, another what; (i NONE; what isn't looked at)
    private static void knots() {
        GuestPages x = mixed();
        int[] any = {0, 1, 2, -1, LEAST, MOST};
        for (int what : any) {
            CHECK.asks("how many, stable", x, () -> x.knot(0, true, -1, what), 2);
            CHECK.asks("how many wait", x, () -> x.knot(2, false, -1, what), 1);
            CHECK.asks("none", x, () -> x.knot(1, true, -1, what), 0);
            CHECK.asks("none waits", x, () -> x.knot(0, false, -1, what), 0);
        }
        CHECK.asks("the first", x, () -> x.knot(0, true, 0, 0), 0);
        CHECK.asks("above it", x, () -> x.knot(0, true, 0, 1), 0);
        CHECK.asks("the last", x, () -> x.knot(0, true, 1, 0), 3);
        CHECK.asks("above it", x, () -> x.knot(0, true, 1, 1), 1);
        CHECK.asks("12 by the guest", x, () -> x.knot(2, false, 0, 0), 12);
        CHECK.asks("the root", x, () -> x.knot(2, false, 0, 1), 0);
        int[] not = {2, -2, 48, LEAST, MOST};
        for (int i : not) {
            CHECK.noSuch("knot " + i, x, () -> x.knot(0, true, i, 0));
            CHECK.noSuch("knot " + i + ", 1", x, () -> x.knot(0, true, i, 1));
        }
        CHECK.noSuch("knot 0 of none", x, () -> x.knot(1, true, 0, 0));
        CHECK.noSuch("none waits", x, () -> x.knot(0, false, 0, 0));
        CHECK.noSuch("knot 1 of one", x, () -> x.knot(2, false, 1, 0));
        int[] no = {-1, 2, 3, LEAST, MOST};
        for (int what : no) {
            CHECK.noSuch("what " + what, x, () -> x.knot(0, true, 0, what));
            CHECK.noSuch("what " + what + ", candidates", x, () -> x.knot(2, false, 0, what));
        }
        int[] realms = {-1, 3, 4, LEAST, MOST};
        for (int realm : realms) {
            CHECK.noSuch("realm " + realm, x, () -> x.knot(realm, true, -1, 0));
            CHECK.noSuch("realm " + realm + ", candidates", x, () -> x.knot(realm, false, -1, 0));
        }
    }

    // promise 13: how many (i NONE), the i-th; there is none. LIKE: others, ABSENT ones, too
    private static void likes() {
        GuestPages x = mixed();
        CHECK.asks("four", x, () -> x.like(0, 0, -1), 4);
        int[] due = {1, 2, 11, 12};
        for (int i = 0; i < 4; i++) {
            int n = i;
            CHECK.asks("like " + i, x, () -> x.like(0, 0, n), due[i]);
        }
        CHECK.asks("of another realm, too", x, () -> x.like(1, 0, 3), 11);
        CHECK.asks("none", x, () -> x.like(2, 2, -1), 0);
        CHECK.noSuch("0 of none", x, () -> x.like(2, 2, 0));
        int[] not = {4, -2, 48, LEAST, MOST};
        for (int i : not) {
            CHECK.noSuch("like " + i, x, () -> x.like(0, 0, i));
        }
        CHECK.asks("absent ones", x, () -> x.like(0, 4, -1), 7);
        CHECK.asks("the last absent one", x, () -> x.like(0, 4, 6), 25);
        x.write(2, 1, 0, 0);
        CHECK.asks("one of 0 is like absent ones", x, () -> x.like(2, 1, -1), 7);
        int[] pages = {-1, 12, LEAST, MOST};
        for (int page : pages) {
            CHECK.noSuch("page " + page, x, () -> x.like(0, page, -1));
        }
        CHECK.noSuch("guest 3", x, () -> x.like(3, 0, -1));
        CHECK.noSuch("guest -1", x, () -> x.like(-1, 0, -1));
        GuestPages y = Check.told("guest12;guest12;guest12;guest12;");
        CHECK.due("all of forty-eight but itself", y.like(1, 5, -1), 47);
        CHECK.due("the last", y.like(1, 5, 46), 47);
        CHECK.noSuch("no 48th", y, () -> y.like(1, 5, 47));
        GuestPages z = Check.told("guest 1;");
        CHECK.due("alone", z.like(0, 0, -1), 0);
        // by what the page's cells are now, not as they were
        GuestPages v = Check.told("guest 4;page 0 0 1 0 0 0;page 0 1 2 0 0 0;page 0 2 1 0 0 0;");
        v.then(3, 0);
        CHECK.due("one", v.like(0, 0, -1), 1);
        v.write(0, 0, 0, 2);
        CHECK.due("one", v.like(0, 0, -1), 1);
        CHECK.due("another one", v.like(0, 0, 0), 1);
        v.drop(0, 1);
        CHECK.due("none", v.like(0, 0, -1), 0);
        CHECK.due("absent", v.like(0, 1, 0), 3);
        // each cell counts
        for (int cell = 0; cell < 4; cell++) {
            GuestPages w = Check.told("guest 2;page 0 0 1 1 1 1;page 0 1 1 1 1 1;");
            CHECK.due("like", w.like(0, 0, -1), 1);
            w.write(0, 1, cell, 2);
            CHECK.due("unlike by cell " + cell, w.like(0, 0, -1), 0);
        }
    }
}
