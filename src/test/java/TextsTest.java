/** Promises 1 to 5: a new object, the tape, a machine's text, orders, faults. */
public final class TextsTest {
    private static final Check CHECK = new Check();

    public static void main(String[] args) {
        newObject();
        tape();
        machineIsMade();
        machineIsAnew();
        machineFaults();
        tokens();
        ordersAreDone();
        ordersFaults();
        ordersAreRefused();
        faultOfTheLatest();
        CHECK.end();
    }

    private static void newObject() {
        GuestPages x = new GuestPages();
        int[] due = {24, 0, 0, 0, 0, 0, 0, 0, 0, 0, 1, 0, 0, 0, 0, 0, 0, 0, 0, 0, 0, 4, 0, 0, 0, 0, 0, 0};
        for (int what = 0; what < due.length; what++) {
            CHECK.due("new: count " + what, x.count(what), due[what]);
        }
        CHECK.due("new: fault", x.fault(), -1);
        CHECK.due("new: restore", x.restore(), false);
        CHECK.due("new: most is 8", x.rate(8), 1);
        CHECK.due("new: 9 is too much", x.rate(9), -1);
    }

    private static void tape() {
        GuestPages x = new GuestPages();
        for (int i = 1; i <= 35; i++) {
            CHECK.due("feed " + i, x.feed(0, 0, 0, 0, 0), 20 * i);
        }
        CHECK.due("feed, the tape is full", x.feed(1, 2, 3, 4, 5), -1);
        CHECK.due("count 24", x.count(24), 700);
        CHECK.illegal("machine(701)", () -> x.machine(701));
        CHECK.illegal("machine(-1)", () -> x.machine(-1));
        CHECK.illegal("orders(701)", () -> x.orders(701));
        CHECK.illegal("orders(-1)", () -> x.orders(-1));
        CHECK.illegal("machine(least)", () -> x.machine(Integer.MIN_VALUE));
        CHECK.illegal("orders(most)", () -> x.orders(Integer.MAX_VALUE));
        CHECK.due("nothing has changed", x.count(24), 700);
        CHECK.due("nothing is refused", x.count(25), 0);
        CHECK.due("machine(0)", x.machine(0), 0);
        CHECK.due("the tape is empty", x.count(24), 0);
        x.feed(0, 0, 0, 0, 0);
        CHECK.due("orders with a fault", x.orders(3), -11);
        CHECK.due("the tape is empty again", x.count(24), 0);
        // the highest byte first: "zero;" in twenty bytes
        x.feed(('z' << 24) + ('e' << 16) + ('r' << 8) + 'o', ';' << 24, 0, 0, 0);
        CHECK.due("the highest first", x.machine(5), 0);
        x.feed(-1, -1, -1, -1, -1);
        CHECK.due("bytes 255 are no token", x.machine(1), 1);
    }

    private static void machineIsMade() {
        GuestPages x = Check.told("share 3;rate 2 5;guest 12;guest 1 2;\nguest4 1;page 2 3 0 0 0 0;page0 11 1 2 3 15;"
                + "advise 0 2 4;advise 0 3 6;smart;zero;");
        CHECK.due("frames without", x.count(0), 24);
        CHECK.due("used", x.count(1), 2);
        CHECK.due("guests", x.count(3), 3);
        CHECK.due("pages", x.count(4), 17);
        CHECK.due("advised", x.count(7), 5);
        CHECK.due("rate is least", x.count(10), 2);
        CHECK.due("share", x.count(21), 3);
        CHECK.due("realm without", x.guest(0, 1), 0);
        CHECK.due("realm", x.guest(1, 1), 2);
        CHECK.due("realm of the third", x.guest(2, 1), 1);
        CHECK.due("the first told lies in 0, though it is 0", x.page(2, 3, 0), 0);
        CHECK.due("the next in 1", x.page(0, 11, 0), 1);
        CHECK.due("cell 3", x.read(0, 11, 3), 15);
        CHECK.due("most", x.rate(5), 2);
        CHECK.due("above most", x.rate(6), -1);
        CHECK.due("below least", x.rate(1), -1);
        GuestPages y = Check.told("frames 48;guest 12;guest 12;guest 12;guest 12;rate 16 16;share 8;");
        CHECK.due("as much as can be", y.count(4), 48);
        CHECK.due("as many frames as can be", y.count(0), 48);
    }

    private static void machineIsAnew() {
        GuestPages x = Check.told("frames 3;guest 2;page 0 0 1 1 1 1;advise 0 0 1;");
        x.ticks(5);
        x.note(1, 1);
        x.note(-1, 1);
        x.image();
        x.drop(0, 1);
        CHECK.due("a fault: its kind", Check.machine(x, "frames 49;"), 2);
        CHECK.due("a fault: all stays", x.count(0), 3);
        CHECK.due("a fault: acts stay", x.count(22), 1);
        CHECK.due("a fault: what is noted stays", x.count(23), 1);
        CHECK.due("a fault: status", x.count(25), 1);
        CHECK.due("a fault: the image stays", x.restore(), true);
        CHECK.due("status is of the image", x.count(25), 0);
        Check.machine(x, "x");
        Check.machine(x, "zero;smart;guest 3;guest 3;page 0 0 1 1 1 1;page 0 1 1 1 1 1;advise 0 0 1;");
        x.scan(7);
        CHECK.due("made anew", Check.machine(x, "guest 1;"), 0);
        CHECK.due("anew: guests", x.count(3), 1);
        CHECK.due("anew: pages", x.count(4), 1);
        CHECK.due("anew: knots", x.count(8) + x.count(9), 0);
        CHECK.due("anew: befell", x.page(0, 0, 3), 0);
        CHECK.due("anew: sum", x.page(0, 0, 4), -1);
        CHECK.due("anew: age", x.page(0, 0, 5), 0);
        CHECK.due("anew: frames", x.count(0), 24);
        CHECK.due("anew: time", x.count(12), 0);
        CHECK.due("anew: scanned", x.count(14), 0);
        CHECK.due("anew: cursor", x.count(19), 0);
        CHECK.due("anew: acts are gone", x.count(22), 0);
        CHECK.due("anew: undo", x.undo(), -1);
        CHECK.due("anew: what is noted is gone", x.count(23), 0);
        CHECK.due("anew: the image is gone", x.restore(), false);
        CHECK.due("anew: status stays", x.count(25), 1);
        CHECK.due("anew: used", x.count(1), 0);
        CHECK.due("anew: advised", x.count(7), 0);
    }

    private static void faultDue(String text, int kind, int place) {
        GuestPages x = new GuestPages();
        CHECK.due("machine \"" + text + "\"", Check.machine(x, text), kind);
        CHECK.due("fault of \"" + text + "\"", x.fault(), place);
        CHECK.due("status by \"" + text + "\"", x.count(25), kind == 0 ? 0 : 1);
    }

    private static void machineFaults() {
        faultDue("", 0, -1);
        faultDue(" \n ", 0, -1);
        faultDue("frames", 1, 6);
        faultDue("frames  ", 1, 8);
        faultDue("frames 6", 1, 8);
        faultDue("frames ;", 1, 7);
        faultDue("frames 6 7;", 1, 9);
        faultDue("frames 0;", 2, 7);
        faultDue("frames 49;", 2, 7);
        faultDue("frames 1;", 0, -1);
        faultDue("share 1;", 2, 6);
        faultDue("share 9;", 2, 6);
        faultDue("share 2;", 0, -1);
        faultDue("share 8;", 0, -1);
        faultDue("rate 0 3;", 2, 5);
        faultDue("rate 17 17;", 2, 5);
        faultDue("rate 1 17;", 2, 7);
        faultDue("rate 3 2;", 2, 7);
        faultDue("rate 3;", 1, 6);
        faultDue("rate 16 16;", 0, -1);
        faultDue("guest;", 1, 5);
        faultDue("guest 0;", 2, 6);
        faultDue("guest 13;", 2, 6);
        faultDue("guest 3 3;", 2, 8);
        faultDue("guest 3 2 1;", 1, 10);
        faultDue("guest1;guest1;guest1;guest1;guest1;", 2, 28);
        faultDue("guest1;guest1;guest1;guest1;guest", 2, 28);
        faultDue("page 0 0 1 1 1 1;", 3, 5);
        faultDue("page 4 0 1 1 1 1;", 2, 5);
        faultDue("guest 2;page 0 2 1 1 1 1;", 3, 15);
        faultDue("guest 2;page 0 12 1 1 1 1;", 2, 15);
        faultDue("guest 2;page 1 0 1 1 1 1;", 3, 13);
        faultDue("guest 2;page 0 0 1 1 1 16;", 2, 23);
        faultDue("guest 2;page 0 0 1 1 1;", 1, 22);
        faultDue("guest 2;page 0 0 1 1 1 1 1;", 1, 25);
        faultDue("frames 1;guest 2;page 0 0 1 1 1 1;page 0 1 1 1 1 1;", 2, 34);
        faultDue("frames 1;guest 2;page 0 0 1 1 1 1;page 0 0", 2, 34);
        faultDue("guest 2;page 0 0 1 1 1 1;page 0 0 2 2 2 2;", 4, 32);
        faultDue("guest 2;page 0 0 1 1 1 1;frames 9;", 4, 25);
        faultDue("frames 9;guest 2;page 0 0 1 1 1 1;frames 9;", 4, 34);
        faultDue("frames 9;frames 9;", 5, 9);
        faultDue("frames 9;guest 1;frames 0;", 5, 17);
        faultDue("share 2;share 2;", 5, 8);
        faultDue("rate 1 1;rate 1 1;", 5, 9);
        faultDue("zero;zero;", 5, 5);
        faultDue("smart;smart;", 5, 6);
        faultDue("guest 2;frames 9;", 0, -1);
        faultDue("guest 2;advise 0 1 0;", 3, 19);
        faultDue("guest 2;advise 0 0 2;", 3, 19);
        faultDue("guest 2;advise 0 0 12;", 2, 19);
        faultDue("guest 2;advise 0 2 1;", 3, 17);
        faultDue("guest 2;advise 1 0 0;", 3, 15);
        faultDue("guest 2;advise 0 0;", 1, 18);
        faultDue("guest 2;advise 0 0 1;advise 0 0 1;", 0, -1);
        faultDue("zero 1;", 1, 5);
        faultDue("frames 49;zero;zero;", 2, 7);
    }

    private static void tokens() {
        faultDue("frames006;", 0, -1);
        faultDue("frames 0006;", 2, 7);
        faultDue("frames 99999999999999999999;", 2, 7);
        faultDue("0006;", 1, 0);
        faultDue("frames6;zero;guest3 0;", 0, -1);
        faultDue("guest 03;page 0 00 01 001 015 0;", 0, -1);
        faultDue("zerosmart;", 1, 0);
        faultDue("zero smart;", 1, 5);
        faultDue("Zero;", 1, 0);
        faultDue("xero;", 1, 0);
        faultDue("zera;", 1, 0);
        faultDue("zer;", 1, 0);
        faultDue("zerO;", 1, 0);
        faultDue("frames;", 1, 6);
        faultDue("zero\t;", 1, 4);
        faultDue("zero\r;", 1, 4);
        faultDue("\nzero\n;\n", 0, -1);
        faultDue("zero,", 1, 4);
        faultDue("frames -1;", 1, 7);
        faultDue(";", 1, 0);
        faultDue("zero;;", 1, 5);
        faultDue("zero;#", 1, 5);
        faultDue("zero;\u00e9", 1, 5);
        faultDue("write 0 0 0 0;", 1, 0);
    }

    private static void ordersAreDone() {
        GuestPages x = Check.told("frames 4;guest 3;page 0 0 1 2 3 4;advise 0 0 2;");
        CHECK.due("none", x.orders(0), 0);
        CHECK.due("blanks alone", Check.orders(x, "  \n"), 0);
        CHECK.due("none is no act", x.count(22), 0);
        CHECK.due("five", Check.orders(x, "write 0 1 2 15;copy 0 2 0 0;drop 0 0;scan 3;tick 20;"), 5);
        CHECK.due("fault", x.fault(), -1);
        CHECK.due("which cell comes first", x.read(0, 1, 2), 15);
        CHECK.due("the first is written", x.read(0, 2, 3), 4);
        CHECK.due("the other one is dropped", x.page(0, 0, 0), -1);
        CHECK.due("the time", x.count(12), 20);
        CHECK.due("one act", x.count(22), 1);
        CHECK.due("undone at once", x.undo(), 0);
        CHECK.due("as ahead of the first", x.read(0, 0, 3), 4);
        CHECK.due("the time, too", x.count(12), 0);
        CHECK.due("scans", x.count(14), 0);
        CHECK.due("scan 100, tick 1", Check.orders(x, "scan100;tick1;"), 2);
    }

    private static void ordersFaultDue(String text, int answer, int place) {
        GuestPages x = Check.told("frames 4;guest 3;guest 1;page 0 0 1 2 3 4;advise 0 0 2;");
        CHECK.due("orders \"" + text + "\"", Check.orders(x, text), answer);
        CHECK.due("fault of \"" + text + "\"", x.fault(), place);
        CHECK.due("status by \"" + text + "\"", x.count(25), answer < 0 ? 1 : 0);
        CHECK.due("acts by \"" + text + "\"", x.count(22), answer < 0 ? 0 : 1);
        CHECK.due("tape by \"" + text + "\"", x.count(24), 0);
    }

    private static void ordersFaults() {
        ordersFaultDue("write 0 0 4 0;", -12, 10);
        ordersFaultDue("write 0 0 3 16;", -12, 12);
        ordersFaultDue("write 0 0 3 15;", 1, -1);
        ordersFaultDue("write 0 0 3;", -11, 11);
        ordersFaultDue("write 0 3 3 1;", -13, 8);
        ordersFaultDue("write 0 12 3 1;", -12, 8);
        ordersFaultDue("write 2 0 3 1;", -13, 6);
        ordersFaultDue("write 4 0 3 1;", -12, 6);
        ordersFaultDue("copy 0 0 1 1;", -13, 11);
        ordersFaultDue("copy 0 0 2 0;", -13, 9);
        ordersFaultDue("copy 0 0 1 0;", 1, -1);
        ordersFaultDue("drop 0 0", -11, 8);
        ordersFaultDue("drop 1 1;", -13, 7);
        ordersFaultDue("scan 0;", -12, 5);
        ordersFaultDue("scan 101;", -12, 5);
        ordersFaultDue("scan 0100;", -12, 5);
        ordersFaultDue("tick 0;", -12, 5);
        ordersFaultDue("tick 21;", -12, 5);
        ordersFaultDue("ticks 1;", -11, 0);
        ordersFaultDue("drop 0 0;advise 0 0 0;", -11, 9);
        ordersFaultDue("drop 0 0;drop 0 0;scan 0;", -12, 23);
    }

    private static void ordersAreRefused() {
        GuestPages x = Check.told("frames 2;guest 3;page 0 0 1 2 3 4;advise 0 0 2;");
        CHECK.due("no frame for a write", Check.orders(x, "tick 1;write 0 1 0 1;write 0 2 0 1;"), -102);
        CHECK.due("all as ahead: time", x.count(12), 0);
        CHECK.due("all as ahead: used", x.count(1), 1);
        CHECK.due("no act", x.count(22), 0);
        CHECK.due("status 1", x.count(26), 1);
        CHECK.due("status 0", x.count(25), 0);
        CHECK.due("no fault", x.fault(), -1);
        CHECK.due("an absent one dropped", Check.orders(x, "drop 0 1;drop 0 2;"), -100);
        CHECK.due("no frame for a copy", Check.orders(x, "copy 0 1 0 0;copy 0 2 0 0;"), -101);
        CHECK.due("status 1: one each", x.count(26), 3);
        CHECK.due("a frame is free by then", Check.orders(x, "drop 0 0;write 0 1 0 1;write 0 2 0 1;"), 3);
        String late = "tick20;".repeat(100);
        GuestPages y = Check.told("guest 1;");
        for (int i = 0; i < 4; i++) {
            CHECK.due("a hundred times twenty", Check.orders(y, late), 100);
        }
        CHECK.due("ten thousand would be too late", Check.orders(y, late), -199);
        CHECK.due("the time", y.count(12), 8000);
        CHECK.due("up to 9980", Check.orders(y, "tick20;".repeat(99)), 99);
        CHECK.due("twenty would be too late", y.ticks(20), -1);
        CHECK.due("nineteen are not", y.ticks(19), 9999);
        CHECK.due("then none", y.ticks(1), -1);
        CHECK.due("nor by orders", Check.orders(y, "tick 1;"), -100);
        CHECK.due("what would come can still be asked", y.then(60, 3), 1);
    }

    private static void faultOfTheLatest() {
        GuestPages x = new GuestPages();
        Check.machine(x, "zero;zero;");
        CHECK.due("of machine()", x.fault(), 5);
        CHECK.illegal("machine(1)", () -> x.machine(1));
        CHECK.due("stays", x.fault(), 5);
        Check.orders(x, "scan 1;scan 0;");
        CHECK.due("of orders()", x.fault(), 12);
        x.scan(1);
        CHECK.due("still", x.fault(), 12);
        x.orders(0);
        CHECK.due("none without", x.fault(), -1);
        Check.orders(x, "x");
        x.machine(0);
        CHECK.due("none by a machine", x.fault(), -1);
    }
}
