/** Terms 2, promises 14 to 21, 35 and 36: each boundary that a sentence names, on both sides. */
public final class ActEdgesTest {
    private static final Check CHECK = new Check();

    /** Three that are like, another one, an absent one; one frame is free. */
    private static final String FIVE = "frames 5;guest 5;page 0 0 1 2 3 4;page 0 1 1 2 3 4;page 0 2 1 2 3 4;page 0 3 9 9 9 9;"
            + "advise 0 0 4;";

    public static void main(String[] args) {
        theLeastFreeIsTaken();
        writtenInEachCase();
        writtenAsItWas();
        writesAtTheirEdges();
        noFrameIsFree();
        fullOfFortyEight();
        keptWhole();
        copiesAtTheirEdges();
        dropsAtTheirEdges();
        droppedLeavesItsKnot();
        advisesAtTheirEdges();
        advisedNoMore();
        splitOffIntoAUsedFrame();
        advisedNoMoreWithoutRoom();
        candidatesLeave();
        scansOneToHundred();
        ticksOneToTwenty();
        ticksUpToTheLastTime();
        ratesLeastToMost();
        fortyAreKept();
        undoneTheLastFirst();
        refusedIsNoAct();
        imageAndRestore();
        imageOfFortyActs();
        imageOfNotes();
        imageOfNothing();
        CHECK.end();
    }

    /** Pages 0 to 2 in frame 0, merged; page 3 waits in frame 3; frames 1, 2, 4 are free. */
    private static GuestPages merged() {
        GuestPages x = Check.told(FIVE);
        CHECK.due("a pair and a third", x.scan(10), 2);
        CHECK.due("two are used", x.count(1), 2);
        return x;
    }

    // One is TAKEN: the least that is free
    private static void theLeastFreeIsTaken() {
        GuestPages x = merged();
        CHECK.due("absent", x.write(0, 4, 0, 1), 1);
        CHECK.due("frame 1", x.page(0, 4, 0), 1);
        CHECK.due("split off", x.write(0, 0, 0, 1), 2);
        CHECK.due("frame 2", x.page(0, 0, 0), 2);
        CHECK.due("split off", x.write(0, 1, 0, 1), 2);
        CHECK.due("frame 4, as 3 is used", x.page(0, 1, 0), 4);
        x.drop(0, 4);
        x.drop(0, 0);
        CHECK.due("absent", x.copy(0, 0, 0, 1), 1);
        CHECK.due("frame 1 again", x.page(0, 0, 0), 1);
        GuestPages y = Check.told("frames 48;guest 1;");
        y.write(0, 0, 0, 0);
        CHECK.due("frame 0", y.page(0, 0, 0), 0);
    }

    // is it ABSENT; lies it in an OWN one; in a MERGED one with others; in a MERGED one alone
    private static void writtenInEachCase() {
        for (int cell = 0; cell < 4; cell++) {
            GuestPages x = merged();
            CHECK.due("absent", x.write(0, 4, cell, 15), 1);
            for (int i = 0; i < 4; i++) {
                CHECK.due("all 0 at first", x.read(0, 4, i), i == cell ? 15 : 0);
            }
            CHECK.due("own", x.page(0, 4, 1), 0);
            CHECK.due("own: where it was", x.write(0, 3, cell, 0), 0);
            CHECK.due("the same frame", x.page(0, 3, 0), 3);
            for (int i = 0; i < 4; i++) {
                CHECK.due("the others stay", x.read(0, 3, i), i == cell ? 0 : 9);
            }
            CHECK.due("with others", x.write(0, 1, cell, 7), 2);
            CHECK.due("own", x.page(0, 1, 1), 0);
            for (int i = 0; i < 4; i++) {
                CHECK.due("the frame got its cells", x.read(0, 1, i), i == cell ? 7 : i + 1);
                CHECK.due("those left keep theirs", x.read(0, 0, i), i + 1);
            }
            CHECK.due("two are left", x.frame(0, -1), 2);
            CHECK.due("the first", x.frame(0, 0), 0);
            CHECK.due("the second", x.frame(0, 1), 2);
            CHECK.noSuch("no third", () -> x.frame(0, 2));
            CHECK.due("split off ever", x.count(18), 1);
            CHECK.due("one more", x.write(0, 0, cell, 7), 2);
            CHECK.due("split off ever", x.count(18), 2);
            CHECK.due("one is left, merged", x.page(0, 2, 1), 1);
            CHECK.due("its chain", x.chain(0, -1), 1);
            CHECK.due("alone", x.write(0, 2, cell, 7), 3);
            CHECK.due("the same frame", x.page(0, 2, 0), 0);
            CHECK.due("own", x.page(0, 2, 1), 0);
            CHECK.due("no knot", x.count(9), 0);
            CHECK.due("no split", x.count(18), 2);
            CHECK.due("no refusal", x.count(26), 0);
        }
    }

    // Then its CELLS are as written (perhaps as they were)
    private static void writtenAsItWas() {
        GuestPages x = merged();
        CHECK.due("split off by what it is", x.write(0, 0, 0, 1), 2);
        CHECK.due("as it was", x.read(0, 0, 0), 1);
        CHECK.due("it lies apart", x.page(0, 0, 0), 1);
        CHECK.due("an absent one by 0", x.write(0, 4, 3, 0), 1);
        CHECK.due("it lies in a frame", x.page(0, 4, 0), 2);
        CHECK.due("own by what it is", x.write(0, 3, 3, 9), 0);
        CHECK.due("that is an act", x.count(22), 4);
        x.drop(0, 1);
        CHECK.due("alone by what it is", x.write(0, 2, 0, 1), 3);
        CHECK.due("it is own", x.page(0, 2, 1), 0);
    }

    // NONE (STATUS 1): number not 0 to 15; NoSuchElementException: CELL
    private static void writesAtTheirEdges() {
        GuestPages x = merged();
        int[] not = {-1, 16, Integer.MIN_VALUE, Integer.MAX_VALUE};
        for (int page = 0; page < 5; page++) {
            int p = page;
            for (int number : not) {
                CHECK.refuses("number " + number, x, 1, () -> x.write(0, p, 0, number));
                CHECK.refuses("number " + number, x, 1, () -> x.write(0, p, 3, number));
            }
        }
        int[] no = {-1, 4, Integer.MIN_VALUE, Integer.MAX_VALUE};
        for (int cell : no) {
            CHECK.noSuch("cell " + cell, x, () -> x.write(0, 0, cell, 0));
            CHECK.noSuch("ahead of the number: cell " + cell, x, () -> x.write(0, 0, cell, 16));
        }
        int[] pages = {-1, 5, 12, Integer.MIN_VALUE, Integer.MAX_VALUE};
        for (int page : pages) {
            CHECK.noSuch("page " + page, x, () -> x.write(0, page, 0, 0));
            CHECK.noSuch("ahead of the number: page " + page, x, () -> x.write(0, page, 0, 16));
        }
        int[] guests = {-1, 1, 4, Integer.MIN_VALUE, Integer.MAX_VALUE};
        for (int guest : guests) {
            CHECK.noSuch("guest " + guest, x, () -> x.write(guest, 0, 0, 0));
        }
        CHECK.due("0", x.write(0, 3, 0, 0), 0);
        CHECK.due("is written", x.read(0, 3, 0), 0);
        CHECK.due("15", x.write(0, 3, 3, 15), 0);
        CHECK.due("is written", x.read(0, 3, 3), 15);
    }

    // If a FRAME had to be TAKEN, and none is free, nothing is done
    private static void noFrameIsFree() {
        GuestPages x = Check.told("frames 3;guest 5;page 0 0 1 0 0 0;page 0 1 1 0 0 0;page 0 2 2 0 0 0;advise 0 0 1;");
        x.scan(4);
        CHECK.due("one is free", x.count(1), 2);
        CHECK.due("the last one is taken", x.write(0, 3, 0, 1), 1);
        CHECK.refuses("an absent one", x, 1, () -> x.write(0, 4, 0, 1));
        CHECK.refuses("a merged one with another", x, 1, () -> x.write(0, 0, 0, 1));
        CHECK.refuses("the other one", x, 1, () -> x.write(0, 1, 3, 1));
        CHECK.refuses("a copy to an absent one", x, 1, () -> x.copy(0, 4, 0, 2));
        CHECK.refuses("a copy to a merged one", x, 1, () -> x.copy(0, 0, 0, 2));
        CHECK.refuses("of itself", x, 1, () -> x.copy(0, 0, 0, 0));
        CHECK.due("own can be", x.write(0, 2, 0, 5), 0);
        CHECK.due("a copy to an own one can be", x.copy(0, 3, 0, 0), 0);
        CHECK.due("dropped", x.drop(0, 1), 0);
        CHECK.due("none is free by that", x.count(1), 3);
        CHECK.due("a merged one alone can be", x.write(0, 0, 0, 5), 3);
        CHECK.due("dropped", x.drop(0, 3), 1);
        CHECK.due("now an absent one can be", x.write(0, 4, 0, 1), 1);
        CHECK.due("in the one that came free", x.page(0, 4, 0), 1);
        GuestPages y = Check.told("frames 1;guest 2;");
        CHECK.due("the only frame", y.write(0, 1, 0, 1), 1);
        CHECK.refuses("none is left", y, 1, () -> y.write(0, 0, 0, 1));
        y.drop(0, 1);
        CHECK.due("it is free again", y.write(0, 0, 0, 1), 1);
    }

    /** As many pages and frames as there can be; none is absent, none free, all can be written. */
    private static void fullOfFortyEight() {
        GuestPages x = Check.told("frames 48;share 8;rate 16 16;guest12;guest12;guest12;guest12;advise 0 0 11;advise 1 0 11;"
                + "advise 2 0 11;advise 3 0 11;");
        for (int i = 0; i < 48; i++) {
            CHECK.due("absent", x.write(i / 12, i % 12, 0, 3), 1);
            CHECK.due("the next frame", x.page(i / 12, i % 12, 0), i);
        }
        CHECK.due("all used", x.count(1), 48);
        CHECK.due("no risk", x.ideal(2), -1);
        CHECK.due("six of eight", x.ideal(0), 6);
        CHECK.due("forty-two lost", x.ideal(1), 42);
        CHECK.due("the last can be written", x.write(3, 11, 3, 15), 0);
        CHECK.due("undone", x.undo(), 39);
        CHECK.due("busy all", x.scan(48), 0);
        // 2 are paired, then 6 join, six times
        CHECK.due("laid together", x.scan(48), 42);
        CHECK.due("six are used", x.count(1), 6);
        CHECK.due("one knot", x.count(9), 1);
        CHECK.due("a chain of six", x.chain(0, -1), 6);
        for (int i = 0; i < 6; i++) {
            CHECK.due("eight in each", x.frame(8 * i, -1), 8);
            CHECK.due("in the order in which they came", x.chain(40, i), 8 * i);
        }
        CHECK.noSuch("no seventh", () -> x.chain(0, 6));
        CHECK.noSuch("no ninth", () -> x.frame(0, 8));
        CHECK.due("the eighth", x.frame(40, 7), 47);
        CHECK.due("no more advised", x.advise(0, 0, 11, false), 12);
        CHECK.due("split off: seven of the first frame's, four of the second's", x.count(18), 7 + 4);
    }

    /** All rows and trees are kept by acts and by an image, to the last of forty-eight. */
    private static void keptWhole() {
        GuestPages x = Check.told("frames 48;share 8;rate 16 16;guest12;guest12;guest12;guest12;advise 0 0 11;advise 1 0 11;"
                + "advise 2 0 11;advise 3 0 11;");
        StringBuilder text = new StringBuilder();
        for (int i = 0; i < 48; i++) {
            text.append("write").append(i / 12).append(' ').append(i % 12).append(" 0 3;");
        }
        CHECK.due("one act", Check.orders(x, text.toString()) + x.count(22), 49);
        CHECK.due("laid together", x.scan(48) + x.scan(48), 42);
        String was = Snap.of(x);
        x.write(3, 11, 0, 9);
        x.undo();
        CHECK.due("as ahead of a write", Snap.of(x).equals(was), true);
        x.advise(3, 0, 11, false);
        x.undo();
        CHECK.due("as ahead of an advise", Snap.of(x).equals(was), true);
        x.image();
        for (int i = 0; i < 48; i++) {
            x.drop(i / 12, i % 12);
        }
        CHECK.due("none is left", x.count(1), 0);
        CHECK.due("restored", x.restore(), true);
        CHECK.due("as the image", Snap.of(x).equals(was), true);
        CHECK.due("refused", Check.orders(x, "drop 3 11;drop 2 0;scan 100;drop 3 11;drop 3 11;"), -103);
        CHECK.due("as ahead of orders", Snap.of(x).equals(was), true);
        CHECK.due("STATUS goes by", x.count(26), 1);
    }

    // promise 15: as write(); NONE (STATUS 1): no FRAME is free
    private static void copiesAtTheirEdges() {
        GuestPages x = merged();
        CHECK.due("to an own one", x.copy(0, 3, 0, 0), 0);
        CHECK.due("cell 3", x.read(0, 3, 3), 4);
        CHECK.due("it lies where it was", x.page(0, 3, 0), 3);
        CHECK.due("to an absent one", x.copy(0, 4, 0, 3), 1);
        CHECK.due("cell 0", x.read(0, 4, 0), 1);
        CHECK.due("to one with others, of one of these", x.copy(0, 0, 0, 1), 2);
        CHECK.due("to the next", x.copy(0, 1, 0, 1), 2);
        CHECK.due("to one alone, of itself", x.copy(0, 2, 0, 2), 3);
        CHECK.due("cell 1", x.read(0, 2, 1), 2);
        CHECK.due("own, of itself", x.copy(0, 2, 0, 2), 0);
        x.drop(0, 4);
        CHECK.due("of an absent one", x.copy(0, 2, 0, 4), 0);
        for (int cell = 0; cell < 4; cell++) {
            CHECK.due("0", x.read(0, 2, cell), 0);
        }
        CHECK.due("an absent one of itself", x.copy(0, 4, 0, 4), 1);
        CHECK.due("it lies in a frame, all 0", x.page(0, 4, 0) >= 0 && x.read(0, 4, 0) == 0, true);
        int[] no = {-1, 5, Integer.MIN_VALUE, Integer.MAX_VALUE};
        for (int page : no) {
            CHECK.noSuch("page " + page, x, () -> x.copy(0, page, 0, 0));
            CHECK.noSuch("other page " + page, x, () -> x.copy(0, 0, 0, page));
        }
        int[] not = {-1, 1, 4, Integer.MIN_VALUE, Integer.MAX_VALUE};
        for (int guest : not) {
            CHECK.noSuch("guest " + guest, x, () -> x.copy(guest, 0, 0, 0));
            CHECK.noSuch("other guest " + guest, x, () -> x.copy(0, 0, guest, 0));
        }
        GuestPages y = Check.told("guest 1 1;guest 1 2;page 1 0 1 2 3 4;");
        CHECK.due("of another guest, another realm", y.copy(0, 0, 1, 0), 1);
        CHECK.due("cell 2", y.read(0, 0, 2), 3);
    }

    // promise 16: whether a FRAME is free by it (1); NONE (STATUS 1): it is ABSENT
    private static void dropsAtTheirEdges() {
        GuestPages x = merged();
        CHECK.refuses("absent", x, 1, () -> x.drop(0, 4));
        CHECK.due("own", x.drop(0, 3), 1);
        CHECK.due("its cells are 0", x.read(0, 3, 0), 0);
        CHECK.refuses("absent now", x, 1, () -> x.drop(0, 3));
        CHECK.due("one of three", x.drop(0, 1), 0);
        CHECK.due("one of two", x.drop(0, 0), 0);
        CHECK.due("merged alone", x.drop(0, 2), 1);
        CHECK.due("none is used", x.count(1), 0);
        CHECK.due("all are absent", x.count(6), 5);
        CHECK.due("advised still", x.count(7), 5);
        int[] no = {-1, 5, Integer.MIN_VALUE, Integer.MAX_VALUE};
        for (int page : no) {
            CHECK.noSuch("page " + page, x, () -> x.drop(0, page));
        }
        int[] not = {-1, 1, 4, Integer.MIN_VALUE, Integer.MAX_VALUE};
        for (int guest : not) {
            CHECK.noSuch("guest " + guest, x, () -> x.drop(guest, 0));
        }
    }

    // a FRAME in which none is left leaves its KNOT, if it has one, and is free
    private static void droppedLeavesItsKnot() {
        GuestPages x = Check.told("share 2;guest 4;page 0 0 1 0 0 0;page 0 1 1 0 0 0;page 0 2 1 0 0 0;page 0 3 1 0 0 0;"
                + "advise 0 0 3;");
        x.scan(8);
        CHECK.due("a chain of two", x.chain(0, -1), 2);
        x.drop(0, 0);
        CHECK.due("one is left", x.chain(0, -1), 2);
        x.drop(0, 1);
        CHECK.noSuch("frame 0 is free", () -> x.chain(0, -1));
        CHECK.due("frame 2 is the first now", x.chain(2, 0), 2);
        CHECK.due("a chain of one", x.chain(2, -1), 1);
        CHECK.due("the knot stays", x.count(9), 1);
        x.drop(0, 3);
        x.drop(0, 2);
        CHECK.due("the knot has left", x.count(9), 0);
    }

    // promise 17: for how many that was otherwise; NONE (STATUS 1): for none
    private static void advisesAtTheirEdges() {
        GuestPages x = Check.told("guest 12;guest 2;advise 0 3 4;");
        CHECK.refuses("all are already", x, 1, () -> x.advise(0, 3, 4, true));
        CHECK.refuses("none is", x, 1, () -> x.advise(0, 0, 2, false));
        CHECK.refuses("to below from", x, 1, () -> x.advise(0, 1, 0, true));
        CHECK.refuses("to below from, advised ones", x, 1, () -> x.advise(0, 4, 3, false));
        CHECK.due("one", x.advise(0, 0, 0, true), 1);
        CHECK.due("to is from: no more", x.advise(0, 0, 0, false), 1);
        CHECK.due("one of two", x.advise(0, 4, 5, true), 1);
        CHECK.due("all of twelve, three are", x.advise(0, 0, 11, true), 9);
        CHECK.due("of this guest alone", x.count(7), 12);
        CHECK.due("all of twelve", x.advise(0, 0, 11, false), 12);
        int[] no = {-1, 12, Integer.MIN_VALUE, Integer.MAX_VALUE};
        for (int page : no) {
            CHECK.noSuch("from " + page, x, () -> x.advise(0, page, 11, true));
            CHECK.noSuch("to " + page, x, () -> x.advise(0, 0, page, true));
            CHECK.noSuch("no more, from " + page, x, () -> x.advise(0, page, 0, false));
        }
        CHECK.noSuch("to 2 of two", x, () -> x.advise(1, 0, 2, true));
        CHECK.noSuch("from 2 of two", x, () -> x.advise(1, 2, 0, true));
        int[] not = {-1, 2, 4, Integer.MIN_VALUE, Integer.MAX_VALUE};
        for (int guest : not) {
            CHECK.noSuch("guest " + guest, x, () -> x.advise(guest, 0, 0, true));
        }
    }

    // one by one, the least first: each that is MERGED is SPLIT off as if WRITTEN
    private static void advisedNoMore() {
        GuestPages x = merged();
        CHECK.due("the middle one of three", x.advise(0, 1, 1, false), 1);
        CHECK.due("frame 1", x.page(0, 1, 0), 1);
        CHECK.due("own", x.page(0, 1, 1), 0);
        CHECK.due("its cells", x.read(0, 1, 3), 4);
        CHECK.due("not advised", x.page(0, 1, 2), 0);
        CHECK.due("split off", x.count(18), 1);
        CHECK.due("the others stay merged", x.count(5), 2);
        CHECK.due("both", x.advise(0, 0, 2, false), 2);
        CHECK.due("the least first", x.page(0, 0, 0), 2);
        CHECK.due("the last where it was", x.page(0, 2, 0), 0);
        CHECK.due("that is no split", x.count(18), 2);
        CHECK.due("no knot", x.count(9), 0);
        CHECK.due("one act each", x.count(22), 3);
        CHECK.due("undone", x.undo(), 2);
        CHECK.due("merged again", x.count(5), 2);
    }

    // a FRAME is TAKEN, which gets the CELLS: whatever was in it
    private static void splitOffIntoAUsedFrame() {
        for (int way = 0; way < 3; way++) {
            GuestPages x = merged();
            x.write(0, 4, 0, 11);
            x.write(0, 4, 2, 12);
            CHECK.due("frame 1", x.page(0, 4, 0), 1);
            x.drop(0, 4);
            if (way == 0) {
                CHECK.due("advised no more", x.advise(0, 0, 0, false), 1);
            } else if (way == 1) {
                CHECK.due("written as it was", x.write(0, 0, 3, 4), 2);
            } else {
                CHECK.due("a copy of itself", x.copy(0, 0, 0, 0), 2);
            }
            CHECK.due("frame 1 again", x.page(0, 0, 0), 1);
            for (int cell = 0; cell < 4; cell++) {
                CHECK.due("its cells", x.read(0, 0, cell), cell + 1);
            }
            CHECK.due("an absent one", x.write(0, 4, 1, 3), 1);
            x.drop(0, 0);
            x.drop(0, 4);
            CHECK.due("an absent one, in a frame that was used", x.write(0, 4, 1, 3), 1);
            CHECK.due("frame 1 again", x.page(0, 4, 0), 1);
            for (int cell = 0; cell < 4; cell++) {
                CHECK.due("all 0 at first", x.read(0, 4, cell), cell == 1 ? 3 : 0);
            }
        }
        // one that was never used
        GuestPages y = Check.told("frames 9;guest 2;page 0 0 7 6 5 4;page 0 1 7 6 5 4;advise 0 0 1;");
        y.scan(4);
        y.write(0, 1, 0, 1);
        y.copy(0, 1, 0, 0);
        y.scan(2);
        CHECK.due("merged again", y.page(0, 1, 1), 1);
        y.drop(0, 1);
        GuestPages z = Check.told("frames 9;guest 3;page 0 0 2 2 2 2;page 0 1 7 6 5 4;page 0 2 7 6 5 4;advise 0 1 2;");
        z.scan(4);
        z.drop(0, 0);
        CHECK.due("both", z.advise(0, 1, 2, false), 2);
        CHECK.due("in the frame of another one", z.page(0, 1, 0), 0);
        for (int cell = 0; cell < 4; cell++) {
            CHECK.due("its cells", z.read(0, 1, cell), 7 - cell);
        }
    }

    // where that can't be it ends, and that one and those behind it stay as they are
    private static void advisedNoMoreWithoutRoom() {
        GuestPages x = Check.told("frames 4;guest 6;page 0 1 1 0 0 0;page 0 2 1 0 0 0;page 0 3 1 0 0 0;page 0 5 2 0 0 0;"
                + "advise 0 0 5;");
        x.scan(12);
        x.write(0, 0, 0, 5);
        CHECK.due("one is free", x.count(1), 3);
        CHECK.due("an own one, one split off, up to the next", x.advise(0, 0, 5, false), 2);
        CHECK.due("the first", x.page(0, 0, 2), 0);
        CHECK.due("the second", x.page(0, 1, 2), 0);
        CHECK.due("the third stays", x.page(0, 2, 2), 1);
        CHECK.due("merged", x.page(0, 2, 1), 1);
        CHECK.due("behind it, merged", x.page(0, 3, 2), 1);
        CHECK.due("behind it, absent", x.page(0, 4, 2), 1);
        CHECK.due("behind it, own", x.page(0, 5, 2), 1);
        CHECK.due("behind it, a candidate still", x.page(0, 5, 7), 1);
        CHECK.refuses("the first can't be split off", x, 1, () -> x.advise(0, 2, 5, false));
        CHECK.refuses("ahead of it none is advised", x, 1, () -> x.advise(0, 0, 5, false));
        CHECK.due("absent and own ones need no frame", x.advise(0, 4, 5, false), 2);
        x.drop(0, 3);
        CHECK.due("alone it needs none", x.advise(0, 2, 3, false), 2);
        CHECK.due("where it was", x.page(0, 2, 0), 0);
        CHECK.due("split off once", x.count(18), 1);
    }

    // a CANDIDATE leaves its tree
    private static void candidatesLeave() {
        GuestPages x = Check.told("guest 3;page 0 0 5 0 0 0;page 0 1 3 0 0 0;page 0 2 7 0 0 0;advise 0 0 2;");
        x.scan(6);
        CHECK.due("three wait", x.count(8), 3);
        CHECK.due("one leaves", x.advise(0, 0, 0, false), 1);
        CHECK.due("two wait", x.count(8), 2);
        CHECK.due("it isn't one", x.page(0, 0, 7), 0);
        CHECK.due("the heir is the root", x.knot(0, false, 1, 1), 0);
        CHECK.due("which", x.knot(0, false, 1, 0), 2);
        x.drop(0, 1);
        CHECK.due("an absent candidate leaves, too", x.advise(0, 1, 1, false), 1);
        CHECK.due("one waits", x.count(8), 1);
        CHECK.due("advised again", x.advise(0, 0, 1, true), 2);
        CHECK.due("that is no candidate", x.count(8), 1);
        CHECK.due("its sum stays", x.page(0, 0, 4), 343 * 5 % 64);
        CHECK.due("its age stays", x.page(0, 0, 5), 1);
    }

    // promise 18: NONE (STATUS 1): not 1 to 100
    private static void scansOneToHundred() {
        GuestPages x = merged();
        int[] not = {0, -1, 101, 102, Integer.MIN_VALUE, Integer.MAX_VALUE};
        for (int many : not) {
            CHECK.refuses("scan " + many, x, 1, () -> x.scan(many));
        }
        CHECK.due("1", x.scan(1), 0);
        CHECK.due("scanned", x.count(14), 11);
        CHECK.due("100", x.scan(100), 0);
        CHECK.due("scanned", x.count(14), 111);
        CHECK.due("acts", x.count(22), 3);
        GuestPages y = new GuestPages();
        CHECK.due("without guests", y.scan(100), 0);
        CHECK.due("nothing scanned", y.count(14), 0);
        CHECK.due("that is an act", y.count(22), 1);
        GuestPages z = Check.told("zero;guest 3;page 0 0 0 0 0 0;page 0 1 0 0 0 0;page 0 2 0 0 0 0;advise 0 0 2;");
        CHECK.due("by these, not ever", z.scan(1) + 10 * z.scan(2), 21);
    }

    // promise 19: NONE (STATUS 1): not 1 to 20
    private static void ticksOneToTwenty() {
        GuestPages x = merged();
        int[] not = {0, -1, 21, 22, Integer.MIN_VALUE, Integer.MAX_VALUE};
        for (int many : not) {
            CHECK.refuses("ticks " + many, x, 1, () -> x.ticks(many));
        }
        CHECK.due("1", x.ticks(1), 1);
        CHECK.due("20", x.ticks(20), 21);
        CHECK.due("acts", x.count(22), 3);
        GuestPages y = new GuestPages();
        CHECK.due("without guests", y.ticks(20), 20);
        CHECK.due("no rounds", y.count(11), 0);
    }

    // it would be above 9999
    private static void ticksUpToTheLastTime() {
        GuestPages x = Check.told("guest 1;advise 0 0 0;");
        for (int i = 0; i < 499; i++) {
            x.ticks(20);
        }
        CHECK.due("9980", x.count(12), 9980);
        CHECK.refuses("10000", x, 1, () -> x.ticks(20));
        CHECK.due("9998", x.ticks(18), 9998);
        CHECK.refuses("10000", x, 1, () -> x.ticks(2));
        CHECK.due("9999", x.ticks(1), 9999);
        CHECK.refuses("10000", x, 1, () -> x.ticks(1));
        CHECK.refuses("not 1 to 20 either", x, 1, () -> x.ticks(0));
        CHECK.due("scans go on", x.scan(100), 0);
        CHECK.due("if only ticks went by", x.then(60, 4), 0);
        CHECK.due("rounds then", x.then(60, 5), x.count(11) + 60);
        CHECK.due("undone", x.undo(), 39);
        CHECK.due("undone", x.undo(), 38);
        CHECK.due("9998 again", x.count(12), 9998);
    }

    // promise 20: as it was; NONE (STATUS 1): not LEAST to MOST, it is so
    private static void ratesLeastToMost() {
        GuestPages x = Check.told("rate 3 6;guest 1;");
        int[] not = {3, 2, 0, -1, 7, 17, Integer.MIN_VALUE, Integer.MAX_VALUE};
        for (int rate : not) {
            CHECK.refuses("rate " + rate, x, 1, () -> x.rate(rate));
        }
        CHECK.due("most", x.rate(6), 3);
        CHECK.refuses("it is so", x, 1, () -> x.rate(6));
        CHECK.due("least", x.rate(3), 6);
        CHECK.due("between", x.rate(4), 3);
        CHECK.due("acts", x.count(22), 3);
        CHECK.due("undone", x.undo(), 2);
        CHECK.due("least again", x.count(10), 3);
        GuestPages y = Check.told("rate 5 5;");
        for (int rate = 0; rate <= 17; rate++) {
            int r = rate;
            CHECK.refuses("there is but one", y, 1, () -> y.rate(r));
        }
    }

    // ACTS (at most 40 are kept, the latest ones)
    private static void fortyAreKept() {
        int[] many = {39, 40, 41, 80, 81, 82, 83};
        for (int n : many) {
            GuestPages x = Check.told("guest 1;");
            for (int i = 1; i <= n; i++) {
                CHECK.due("the time", x.ticks(1), i);
                CHECK.due("kept", x.count(22), Math.min(i, 40));
            }
            int kept = Math.min(n, 40);
            for (int left = kept - 1; left >= 0; left--) {
                CHECK.due("left", x.undo(), left);
                CHECK.due("the time then", x.count(12), n - kept + left);
            }
            CHECK.asks("there is none", x, x::undo, -1);
            CHECK.due("the time stays", x.count(12), n - kept);
            CHECK.due("acts can be made again", x.ticks(3), n - kept + 3);
            CHECK.due("one is kept", x.count(22), 1);
        }
    }

    // They are UNDONE, the last one first; promise 21: how many are left; NONE: there is none
    private static void undoneTheLastFirst() {
        GuestPages x = Check.told("rate 1 3;" + FIVE);
        CHECK.asks("none at first", x, x::undo, -1);
        String[] was = new String[9];
        was[0] = Snap.of(x);
        x.scan(3);
        was[1] = Snap.of(x);
        x.ticks(20);
        was[2] = Snap.of(x);
        x.write(0, 1, 2, 0);
        was[3] = Snap.of(x);
        x.copy(0, 4, 0, 3);
        was[4] = Snap.of(x);
        x.drop(0, 0);
        was[5] = Snap.of(x);
        x.advise(0, 2, 3, false);
        was[6] = Snap.of(x);
        x.rate(x.count(10) == 3 ? 2 : 3);
        was[7] = Snap.of(x);
        x.advise(0, 2, 2, true);
        was[8] = Snap.of(x);
        Check.orders(x, "tick 2;drop 0 1;scan 2;");
        for (int left = 8; left >= 0; left--) {
            CHECK.due("left", x.undo(), left);
            CHECK.due("as ahead of act " + left, Snap.of(x).equals(was[left]), true);
        }
        CHECK.asks("none at last", x, x::undo, -1);
    }

    /** None of forty is pushed out by what is refused. */
    private static void refusedIsNoAct() {
        GuestPages x = Check.told("frames 1;guest 2;page 0 0 1 0 0 0;");
        for (int i = 0; i < 40; i++) {
            x.ticks(1);
        }
        CHECK.refuses("write", x, 1, () -> x.write(0, 1, 0, 1));
        CHECK.refuses("write 16", x, 1, () -> x.write(0, 0, 0, 16));
        CHECK.refuses("copy", x, 1, () -> x.copy(0, 1, 0, 0));
        CHECK.refuses("drop", x, 1, () -> x.drop(0, 1));
        CHECK.refuses("advise", x, 1, () -> x.advise(0, 0, 1, false));
        CHECK.refuses("scan", x, 1, () -> x.scan(101));
        CHECK.refuses("ticks", x, 1, () -> x.ticks(21));
        CHECK.refuses("rate", x, 1, () -> x.rate(9));
        CHECK.refuses("note", x, 2, () -> x.note(21, 0));
        for (int left = 39; left >= 0; left--) {
            CHECK.due("left", x.undo(), left);
            CHECK.due("the time", x.count(12), left);
        }
        CHECK.due("STATUS isn't undone", x.count(26), 8);
    }

    // AN IMAGE keeps all that ACTS change, ACTS that are kept, what is NOTED, STATUS
    private static void imageAndRestore() {
        GuestPages x = merged();
        x.note(2, 2);
        x.note(0, 49);
        x.drop(0, 4);
        Check.machine(x, "!");
        String first = Snap.of(x);
        x.image();
        CHECK.due("an image changes nothing", Snap.of(x).equals(first), true);
        x.write(0, 0, 0, 5);
        x.advise(0, 3, 3, false);
        x.ticks(20);
        x.rate(x.count(10) == 8 ? 7 : 8);
        x.note(5, 5);
        x.note(-1, 0);
        x.scan(0);
        Check.orders(x, "?");
        Check.feed(x, "zero;");
        CHECK.due("restored", x.restore(), true);
        CHECK.due("STATUS 0", x.count(25), 1);
        CHECK.due("STATUS 1", x.count(26), 1);
        CHECK.due("STATUS 2", x.count(27), 1);
        CHECK.due("the tape isn't of it", x.count(24), 20);
        x.machine(4);
        CHECK.due("a fault later", x.fault(), 4);
        CHECK.due("restored again", x.restore(), true);
        CHECK.due("as the image", Snap.of(x).equals(first), true);
        CHECK.due("an act of it", x.undo(), 0);
        CHECK.due("restored once more", x.restore(), true);
        CHECK.due("as the image still", Snap.of(x).equals(first), true);
        x.forget();
        x.ticks(1);
        String second = Snap.of(x);
        x.image();
        x.undo();
        x.undo();
        x.note(1, 1);
        CHECK.due("in place of the other one", x.restore() && Snap.of(x).equals(second), true);
        CHECK.due("two acts", x.undo(), 1);
        x.forget();
        CHECK.due("as the first, but for what was noted", x.count(22), 1);
    }

    private static void imageOfFortyActs() {
        GuestPages x = Check.told("guest 1;");
        for (int i = 0; i < 57; i++) {
            x.ticks(1);
        }
        x.image();
        for (int i = 0; i < 40; i++) {
            x.undo();
        }
        x.ticks(20);
        CHECK.due("restored", x.restore(), true);
        CHECK.due("forty", x.count(22), 40);
        for (int i = 0; i < 5; i++) {
            x.ticks(1);
        }
        for (int left = 39; left >= 0; left--) {
            CHECK.due("left", x.undo(), left);
            CHECK.due("the time", x.count(12), 22 + left);
        }
        CHECK.due("restored", x.restore(), true);
        for (int left = 39; left >= 0; left--) {
            CHECK.due("left", x.undo(), left);
            CHECK.due("the time", x.count(12), 17 + left);
        }
        CHECK.due("none", x.undo(), -1);
    }

    // what is NOTED: TICKS and FRAMES of each of eight
    private static void imageOfNotes() {
        String text = "rate 1 1;guest 2;page 0 0 1 0 0 0;page 0 1 1 0 0 0;advise 0 0 1;";
        for (int last = 0; last < 8; last++) {
            GuestPages x = Check.told(text);
            for (int i = 0; i < 8; i++) {
                x.note(i == last ? 4 : 3, i == last ? 1 : 2);
            }
            CHECK.due("so", x.guess(0, 0, 0, 2), 1);
            x.image();
            x.forget();
            for (int i = 0; i < 8; i++) {
                x.note(i == last ? 3 : 4, 2);
            }
            CHECK.due("not so", x.guess(0, 0, 0, 2), 0);
            x.restore();
            CHECK.due("so again", x.guess(0, 0, 0, 2), 1);
            x.forget();
            for (int i = 0; i < 8; i++) {
                x.note(i == last ? 4 : 3, 2);
            }
            CHECK.due("not so", x.guess(0, 0, 0, 2), 0);
            x.restore();
            CHECK.due("so once more", x.guess(0, 0, 0, 2), 1);
        }
    }

    // promise 36: false: there is none; promise 3: the image is gone
    private static void imageOfNothing() {
        GuestPages x = new GuestPages();
        CHECK.asks("there is none", x, () -> x.restore() ? 1 : 0, 0);
        x.ticks(1);
        CHECK.asks("there is none still", x, () -> x.restore() ? 1 : 0, 0);
        x.image();
        CHECK.asks("there is one", x, () -> x.restore() ? 1 : 0, 1);
        CHECK.asks("it is kept", x, () -> x.restore() ? 1 : 0, 1);
        Check.machine(x, "x");
        CHECK.due("a fault leaves it", x.restore(), true);
        x.machine(0);
        CHECK.asks("a machine doesn't", x, () -> x.restore() ? 1 : 0, 0);
        x.image();
        x.ticks(5);
        CHECK.due("another one", x.restore(), true);
        CHECK.due("the time", x.count(12), 0);
    }
}
