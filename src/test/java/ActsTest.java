/** Promises 14 to 21 (acts, and undone ones), 35 and 36 (an image). */
public final class ActsTest {
    private static final Check CHECK = new Check();

    /** Three that are like, an absent one: behind eight scans they lie in frame 0. */
    private static final String THREE = "frames 4;guest 4;page 0 0 1 2 3 4;page 0 1 1 2 3 4;page 0 2 1 2 3 4;advise 0 0 3;";

    public static void main(String[] args) {
        writes();
        copies();
        drops();
        advises();
        advisesNoMore();
        scans();
        ticks();
        rates();
        undoes();
        keepsForty();
        images();
        CHECK.end();
    }

    private static GuestPages merged() {
        GuestPages x = Check.told(THREE);
        CHECK.due("a pair and a third", x.scan(8), 2);
        return x;
    }

    private static void writes() {
        GuestPages x = merged();
        CHECK.due("split off", x.write(0, 0, 0, 1), 2);
        CHECK.due("the least free frame", x.page(0, 0, 0), 1);
        CHECK.due("it is own", x.page(0, 0, 1), 0);
        CHECK.due("its other cells came with it", x.read(0, 0, 3), 4);
        CHECK.due("the others stay in their order", x.frame(0, 0), 1);
        CHECK.due("own: where it was", x.write(0, 0, 3, 15), 0);
        CHECK.due("written", x.read(0, 0, 3), 15);
        CHECK.due("the others' are not", x.read(0, 1, 3), 4);
        CHECK.due("absent", x.write(0, 3, 2, 0), 1);
        CHECK.due("in a frame, though it is 0", x.page(0, 3, 0), 2);
        CHECK.due("split off", x.write(0, 1, 1, 7), 2);
        CHECK.due("split twice", x.count(18), 2);
        CHECK.due("merged, alone", x.page(0, 2, 1), 1);
        CHECK.due("becomes its own", x.write(0, 2, 0, 1), 3);
        CHECK.due("where it was", x.page(0, 2, 0), 0);
        CHECK.due("the knot has left", x.count(9), 0);
        CHECK.due("that is no split", x.count(18), 2);
        CHECK.due("acts", x.count(22), 6);
        CHECK.due("number 16", x.write(0, 0, 0, 16), -1);
        CHECK.due("number -1", x.write(0, 0, 0, -1), -1);
        CHECK.due("refused", x.count(26), 2);
        CHECK.noSuch("cell 4", () -> x.write(0, 0, 4, 1));
        CHECK.noSuch("cell -1, number 99", () -> x.write(0, 0, -1, 99));
        CHECK.noSuch("page 4", () -> x.write(0, 4, 0, 1));
        CHECK.noSuch("guest 1", () -> x.write(1, 0, 0, 1));
        CHECK.due("that is no refusal", x.count(26), 2);
        CHECK.due("nor an act", x.count(22), 6);
        noFrame();
    }

    private static void noFrame() {
        GuestPages x = Check.told("frames 2;guest 3;page 0 0 1 1 1 1;page 0 1 1 1 1 1;advise 0 0 1;");
        x.scan(4);
        x.write(0, 2, 0, 9);
        CHECK.due("none is free to be split off to", x.write(0, 0, 0, 5), -1);
        CHECK.due("nothing is done", x.read(0, 0, 0), 1);
        CHECK.due("no copy", x.copy(0, 1, 0, 2), -1);
        CHECK.due("not of itself either", x.copy(0, 1, 0, 1), -1);
        CHECK.due("refused", x.count(26), 3);
        CHECK.due("split", x.count(18), 0);
        CHECK.due("an own one can be", x.write(0, 2, 0, 5), 0);
        x.drop(0, 0);
        CHECK.due("alone it can be", x.write(0, 1, 0, 5), 3);
        CHECK.due("an absent one can't", x.write(0, 0, 0, 5), -1);
        CHECK.due("it stays absent", x.page(0, 0, 0), -1);
    }

    private static void copies() {
        GuestPages x = merged();
        CHECK.due("absent", x.copy(0, 3, 0, 0), 1);
        CHECK.due("all cells", x.read(0, 3, 0) * 1000 + x.read(0, 3, 1) * 100 + x.read(0, 3, 2) * 10 + x.read(0, 3, 3), 1234);
        CHECK.due("in a frame of its own", x.page(0, 3, 0), 1);
        CHECK.due("of itself: split off", x.copy(0, 0, 0, 0), 2);
        CHECK.due("as it was", x.read(0, 0, 3), 4);
        CHECK.due("own, of itself", x.copy(0, 0, 0, 0), 0);
        x.drop(0, 3);
        CHECK.due("of an absent one", x.copy(0, 0, 0, 3), 0);
        CHECK.due("it is 0", x.read(0, 0, 3), 0);
        CHECK.due("not absent", x.page(0, 0, 0), 2);
        CHECK.due("an absent one of an absent one", x.copy(0, 3, 0, 3), 1);
        CHECK.due("lies in the least free", x.page(0, 3, 0), 1);
        CHECK.due("of one in the same frame", x.copy(0, 1, 0, 2), 2);
        CHECK.due("alone", x.copy(0, 2, 0, 1), 3);
        CHECK.noSuch("other page", () -> x.copy(0, 0, 0, 4));
        CHECK.noSuch("other guest", () -> x.copy(0, 0, 1, 0));
        CHECK.noSuch("page", () -> x.copy(0, -1, 0, 0));
        CHECK.noSuch("guest", () -> x.copy(-1, 0, 0, 0));
    }

    private static void drops() {
        GuestPages x = merged();
        CHECK.due("others are left", x.drop(0, 1), 0);
        CHECK.due("their order", x.frame(0, 1), 2);
        CHECK.due("absent", x.drop(0, 1), -1);
        CHECK.due("refused", x.count(26), 1);
        CHECK.due("one is left", x.drop(0, 0), 0);
        CHECK.due("it is still merged", x.count(2), 1);
        CHECK.due("none is left", x.drop(0, 2), 1);
        CHECK.due("free", x.count(1), 0);
        CHECK.due("no knot", x.count(9), 0);
        CHECK.due("a sum is kept", x.page(0, 1, 4), 18);
        CHECK.noSuch("page 4", () -> x.drop(0, 4));
        CHECK.noSuch("guest 1", () -> x.drop(1, 0));
    }

    private static void advises() {
        GuestPages x = Check.told("guest 5;advise 0 1 2;");
        CHECK.due("those that were not", x.advise(0, 0, 3, true), 2);
        CHECK.due("none was not", x.advise(0, 0, 3, true), -1);
        CHECK.due("to below from", x.advise(0, 4, 0, true), -1);
        CHECK.due("refused", x.count(26), 2);
        CHECK.due("acts", x.count(22), 1);
        CHECK.due("advised", x.count(7), 4);
        CHECK.due("no more", x.advise(0, 3, 4, false), 1);
        CHECK.due("none was", x.advise(0, 3, 4, false), -1);
        CHECK.due("to below from", x.advise(0, 2, 1, false), -1);
        CHECK.noSuch("from", () -> x.advise(0, 5, 4, true));
        CHECK.noSuch("to", () -> x.advise(0, 0, 5, true));
        CHECK.noSuch("to -1", () -> x.advise(0, 0, -1, true));
        CHECK.noSuch("guest", () -> x.advise(1, 0, 0, true));
    }

    private static void advisesNoMore() {
        GuestPages x = merged();
        CHECK.due("all four", x.advise(0, 0, 3, false), 4);
        CHECK.due("the least first", x.page(0, 0, 0), 1);
        CHECK.due("then the next", x.page(0, 1, 0), 2);
        CHECK.due("the last keeps the frame", x.page(0, 2, 0), 0);
        CHECK.due("as its own", x.page(0, 2, 1), 0);
        CHECK.due("no knot", x.count(9), 0);
        CHECK.due("split", x.count(18), 2);
        CHECK.due("cells stay", x.read(0, 1, 3), 4);
        CHECK.due("sums stay", x.page(0, 1, 4), 18);
        GuestPages y = Check.told("frames 2;guest 4;page 0 1 1 0 0 0;page 0 2 1 0 0 0;advise 0 0 3;");
        y.scan(8);
        y.write(0, 3, 0, 7);
        CHECK.due("up to the one that can't be split off", y.advise(0, 0, 3, false), 1);
        CHECK.due("three are left", y.count(7), 3);
        CHECK.due("that one is still merged", y.page(0, 1, 1), 1);
        CHECK.due("those behind stay, too", y.page(0, 3, 2), 1);
        CHECK.due("it is the first: none", y.advise(0, 1, 3, false), -1);
        CHECK.due("refused", y.count(26), 1);
        CHECK.due("the last alone", y.advise(0, 3, 3, false), 1);
        y.drop(0, 2);
        CHECK.due("alone it needs no frame", y.advise(0, 1, 1, false), 1);
        CHECK.due("own", y.page(0, 1, 1), 0);
    }

    private static void scans() {
        GuestPages x = Check.told(THREE);
        CHECK.due("0", x.scan(0), -1);
        CHECK.due("-1", x.scan(-1), -1);
        CHECK.due("101", x.scan(101), -1);
        CHECK.due("refused", x.count(26), 3);
        CHECK.due("none yet", x.scan(5), 0);
        CHECK.due("a pair", x.scan(1), 1);
        CHECK.due("joined", x.scan(1), 1);
        CHECK.due("acts", x.count(22), 3);
        CHECK.due("100", x.scan(100), 0);
        CHECK.due("scanned", x.count(14), 107);
        CHECK.due("the time is as it was", x.count(12), 0);
    }

    private static void ticks() {
        GuestPages x = Check.told("rate 2 8;" + THREE);
        CHECK.due("0", x.ticks(0), -1);
        CHECK.due("21", x.ticks(21), -1);
        CHECK.due("-5", x.ticks(-5), -1);
        CHECK.due("refused", x.count(26), 3);
        CHECK.due("one", x.ticks(1), 1);
        CHECK.due("two scans", x.count(14), 2);
        CHECK.due("three more", x.ticks(3), 4);
        CHECK.due("eight scans", x.count(14), 8);
        CHECK.due("the next begins with two", x.ticks(1), 5);
        CHECK.due("though rate is four by then", x.count(10), 4);
        CHECK.due("ten scans", x.count(14), 10);
        CHECK.due("twenty", x.ticks(20), 25);
    }

    private static void rates() {
        GuestPages x = Check.told("rate 2 5;");
        CHECK.due("it is so", x.rate(2), -1);
        CHECK.due("below", x.rate(1), -1);
        CHECK.due("above", x.rate(6), -1);
        CHECK.due("refused", x.count(26), 3);
        CHECK.due("as it was", x.rate(5), 2);
        CHECK.due("as it was then", x.rate(3), 5);
        CHECK.due("set", x.count(10), 3);
        CHECK.due("acts", x.count(22), 2);
        CHECK.due("undone", x.undo(), 1);
        CHECK.due("as ahead of it", x.count(10), 5);
    }

    /** All that can be asked, as one text. */
    private static String all(GuestPages x) {
        StringBuilder text = new StringBuilder();
        for (int what = 0; what <= 21; what++) {
            text.append(x.count(what)).append(' ');
        }
        for (int g = 0; g < x.count(3); g++) {
            for (int p = 0; p < x.guest(g, 0); p++) {
                for (int what = 0; what < 8; what++) {
                    text.append(x.page(g, p, what)).append(',');
                }
                for (int cell = 0; cell < 4; cell++) {
                    text.append(x.read(g, p, cell)).append(',');
                }
            }
        }
        for (int f = 0; f < x.count(0); f++) {
            for (int i = 0; i < x.frame(f, -1); i++) {
                text.append(x.frame(f, i)).append(';');
            }
        }
        for (int i = 0; i < x.count(8); i++) {
            text.append(x.knot(0, false, i, 0)).append(':').append(x.knot(0, false, i, 1)).append(' ');
        }
        for (int i = 0; i < x.count(9); i++) {
            text.append(x.knot(0, true, i, 0)).append(':').append(x.knot(0, true, i, 1)).append(' ');
        }
        return text.append(x.then(9, 4)).toString();
    }

    private static void undoes() {
        GuestPages x = Check.told(THREE);
        CHECK.due("none", x.undo(), -1);
        CHECK.due("that is no refusal", x.count(26), 0);
        String[] was = new String[10];
        int n = 0;
        was[n++] = all(x);
        x.scan(5);
        was[n++] = all(x);
        x.ticks(2);
        was[n++] = all(x);
        x.write(0, 0, 1, 9);
        was[n++] = all(x);
        x.copy(0, 1, 0, 0);
        was[n++] = all(x);
        x.drop(0, 2);
        was[n++] = all(x);
        x.advise(0, 0, 2, false);
        was[n++] = all(x);
        x.rate(7);
        was[n++] = all(x);
        Check.orders(x, "tick 3;write 0 3 0 1;");
        x.note(3, 3);
        x.drop(0, 2);
        x.write(0, 0, 0, 77);
        for (int i = n - 1; i >= 0; i--) {
            CHECK.due("left", x.undo(), i);
            CHECK.due("as ahead of act " + i, all(x).equals(was[i]), true);
        }
        CHECK.due("none left", x.undo(), -1);
        CHECK.due("status stays", x.count(26), 2);
        CHECK.due("what is noted stays", x.count(23), 1);
    }

    private static void keepsForty() {
        GuestPages x = Check.told("guest 1;");
        for (int i = 0; i < 130; i++) {
            x.ticks(1);
            CHECK.due("kept", x.count(22), Math.min(40, i + 1));
        }
        CHECK.due("a refused one", x.drop(0, 0), -1);
        CHECK.due("kept", x.count(22), 40);
        for (int i = 39; i >= 0; i--) {
            CHECK.due("left", x.undo(), i);
            CHECK.due("the time", x.count(12), i + 90);
        }
        CHECK.due("none left", x.undo(), -1);
        CHECK.due("the time stays", x.count(12), 90);
    }

    private static void images() {
        GuestPages x = Check.told(THREE);
        CHECK.due("no image", x.restore(), false);
        x.scan(5);
        x.note(2, 1);
        x.drop(0, 3);
        Check.machine(x, "?");
        String was = all(x);
        x.image();
        x.scan(4);
        x.note(99, 3);
        x.note(3, 3);
        x.undo();
        x.undo();
        x.write(0, 3, 3, 3);
        for (int i = 0; i < 45; i++) {
            x.ticks(1);
        }
        x.forget();
        x.note(20, 48);
        Check.feed(x, "zero;");
        CHECK.due("restored", x.restore(), true);
        CHECK.due("as the image", all(x).equals(was), true);
        CHECK.due("acts", x.count(22), 1);
        CHECK.due("noted", x.count(23), 1);
        CHECK.due("status 0", x.count(25), 1);
        CHECK.due("status 1", x.count(26), 1);
        CHECK.due("status 2", x.count(27), 0);
        CHECK.due("the tape stays", x.count(24), 20);
        CHECK.due("what is noted is as it was", x.guess(0, 0, 0, 2), 1);
        CHECK.due("an act of the image", x.undo(), 0);
        CHECK.due("is undone", x.count(14), 0);
        CHECK.due("restored once more", x.restore(), true);
        CHECK.due("as the image again", all(x).equals(was), true);
        x.ticks(1);
        String later = all(x);
        x.image();
        x.ticks(9);
        CHECK.due("in place of the other", x.restore() && all(x).equals(later), true);
        CHECK.due("acts of the later one", x.count(22), 2);
        CHECK.due("back to the first", x.undo(), 1);
        CHECK.due("as then", all(x).equals(was), true);
    }
}
