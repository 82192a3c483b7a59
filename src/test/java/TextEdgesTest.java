/** Terms 1, orders of Terms 2, promises 1 to 5: each boundary that a sentence names, on both sides. */
public final class TextEdgesTest {
    private static final Check CHECK = new Check();
    private static final String BLANK = " ";

    public static void main(String[] args) {
        framesOneToFortyEight();
        guestsFourAtMost();
        pagesOneToTwelve();
        realmsZeroToTwo();
        cellsZeroToFifteen();
        sharesTwoToEight();
        ratesOneToSixteen();
        zeroAndSmart();
        numbersOfThreeDigits();
        bytesThatAreNoTokens();
        blanksCountForNothing();
        endsTooSoon();
        theFirstFaultCounts();
        ofOneTokenTheLeast();
        aPageForWhichNoFrameIsLeft();
        guestsAndPagesToldAhead();
        pagesAgain();
        told();
        newObject();
        tapeOfSevenHundred();
        highestByteFirst();
        machineTakesTheFirstBytes();
        machineWithAFault();
        machineWithout();
        machineBehindQuestions();
        ordersEach();
        ordersOfFourDigits();
        ordersEndTooSoon();
        ordersOfTheWholeTape();
        ordersEmpty();
        ordersRefused();
        ordersUpToTheLastTime();
        ordersIllegal();
        places();
        CHECK.end();
    }

    private static GuestPages faultDue(String text, int kind, int place) {
        GuestPages x = new GuestPages();
        CHECK.due("machine \"" + text + "\"", Check.machine(x, text), kind);
        CHECK.due("fault of \"" + text + "\"", x.fault(), place);
        CHECK.due("STATUS 0 by \"" + text + "\"", x.count(25), kind == 0 ? 0 : 1);
        CHECK.due("STATUS 1 by \"" + text + "\"", x.count(26), 0);
        CHECK.due("the tape behind \"" + text + "\"", x.count(24), 0);
        return x;
    }

    private static GuestPages good(String text) {
        return faultDue(text, 0, -1);
    }

    // FRAMES 0, 1 .. (1 to 48; 24 without)
    private static void framesOneToFortyEight() {
        int[] ok = {1, 2, 23, 24, 25, 47, 48};
        for (int n : ok) {
            GuestPages x = good("frames " + n + ";");
            CHECK.due("frames " + n, x.count(0), n);
            CHECK.due("the last of " + n, x.frame(n - 1, -1), 0);
            CHECK.noSuch("behind the last of " + n, x, () -> x.frame(n, -1));
        }
        int[] not = {0, 49, 50, 99, 100, 999};
        for (int n : not) {
            CHECK.due("24 without", faultDue("frames " + n + ";", 2, 7).count(0), 24);
        }
        CHECK.due("24 without", good("zero;").count(0), 24);
    }

    // GUESTS 0, 1 .. (at most 4); 2: the 'guest' of the 5th
    private static void guestsFourAtMost() {
        CHECK.due("no guests", good("").count(3), 0);
        for (int n = 1; n <= 4; n++) {
            GuestPages x = good("guest1;".repeat(n));
            CHECK.due("guests", x.count(3), n);
            CHECK.due("the last one", x.guest(n - 1, 0), 1);
            int behind = n;
            CHECK.noSuch("behind the last one", x, () -> x.guest(behind, 0));
        }
        faultDue("guest1;guest1;guest1;guest1; guest 1;", 2, 29);
        faultDue("guest1;guest1;guest1;guest1;guest;", 2, 28);
        faultDue("guest1;guest1;guest1;guest1;guest 13 9;", 2, 28);
    }

    // PAGES 0, 1 .. (1 to 12)
    private static void pagesOneToTwelve() {
        for (int n = 1; n <= 12; n++) {
            GuestPages x = good("guest " + n + ";");
            CHECK.due("pages", x.guest(0, 0), n);
            CHECK.due("the last one", x.read(0, n - 1, 0), 0);
            int behind = n;
            CHECK.noSuch("behind the last one", x, () -> x.read(0, behind, 0));
        }
        faultDue("guest 0;", 2, 6);
        faultDue("guest 13;", 2, 6);
        faultDue("guest 999 2;", 2, 6);
        GuestPages full = good("guest12;guest12;guest12;guest12;");
        CHECK.due("forty-eight", full.count(4), 48);
        CHECK.due("all absent", full.count(6), 48);
        CHECK.due("the last of all", full.page(3, 11, 0), -1);
    }

    // a REALM (0 to 2); REALM is 0 without
    private static void realmsZeroToTwo() {
        CHECK.due("without", good("guest 2;").guest(0, 1), 0);
        for (int realm = 0; realm <= 2; realm++) {
            CHECK.due("realm", good("guest 2 " + realm + ";").guest(0, 1), realm);
        }
        faultDue("guest 2 3;", 2, 8);
        faultDue("guest 2 0003;", 2, 8);
        faultDue("guest 2 0 0;", 1, 10);
        GuestPages x = good("guest 2 2;guest 1;");
        CHECK.due("one ahead has another", x.guest(1, 1), 0);
    }

    // A PAGE has 4 CELLS (0 to 15 each)
    private static void cellsZeroToFifteen() {
        for (int cell = 0; cell < 4; cell++) {
            StringBuilder most = new StringBuilder("guest1;page 0 0");
            StringBuilder above = new StringBuilder("guest1;page 0 0");
            for (int i = 0; i < 4; i++) {
                most.append(i == cell ? " 15" : " 0");
                above.append(i == cell ? " 16" : " 0");
            }
            GuestPages x = good(most + ";");
            for (int i = 0; i < 4; i++) {
                CHECK.due("cell " + i, x.read(0, 0, i), i == cell ? 15 : 0);
            }
            faultDue(above + ";", 2, 16 + 2 * cell);
        }
        faultDue("guest1;page 0 0 1 2 3;", 1, 21);
        faultDue("guest1;page 0 0 1 2 3 4 5;", 1, 24);
    }

    // SHARE (2 to 8; 4 without)
    private static void sharesTwoToEight() {
        for (int n = 2; n <= 8; n++) {
            CHECK.due("share", good("share " + n + ";").count(21), n);
        }
        CHECK.due("4 without", good("").count(21), 4);
        faultDue("share 0;", 2, 6);
        faultDue("share 1;", 2, 6);
        faultDue("share 9;", 2, 6);
    }

    // LEAST, MOST (1 to 16 each, LEAST no more; 1, 8 without); it is LEAST at first
    private static void ratesOneToSixteen() {
        int[][] ok = {{1, 1}, {1, 16}, {16, 16}, {7, 8}, {8, 8}, {15, 16}};
        for (int[] row : ok) {
            GuestPages x = good("rate " + row[0] + " " + row[1] + ";");
            CHECK.due("least at first", x.count(10), row[0]);
            CHECK.refuses("below least", x, 1, () -> x.rate(row[0] - 1));
            CHECK.refuses("above most", x, 1, () -> x.rate(row[1] + 1));
            if (row[0] < row[1]) {
                CHECK.due("most", x.rate(row[1]), row[0]);
                CHECK.due("least again", x.rate(row[0]), row[1]);
            }
        }
        faultDue("rate 0 1;", 2, 5);
        faultDue("rate 0 0;", 2, 5);
        faultDue("rate 17 16;", 2, 5);
        faultDue("rate 16 17;", 2, 8);
        faultDue("rate 1 17;", 2, 7);
        faultDue("rate 2 1;", 2, 7);
        faultDue("rate 16 15;", 2, 8);
        faultDue("rate 1 0;", 2, 7);
        faultDue("rate 1;", 1, 6);
        faultDue("rate;", 1, 4);
        GuestPages x = good("");
        CHECK.due("1 without", x.count(10), 1);
        CHECK.refuses("9 is above 8", x, 1, () -> x.rate(9));
        CHECK.due("8 without", x.rate(8), 1);
    }

    // ZERO, SMART are told or not
    private static void zeroAndSmart() {
        String zeros = "guest 1;page 0 0 0 0 0 0;advise 0 0 0;";
        CHECK.due("zero is told", good("zero;" + zeros).scan(1), 1);
        CHECK.due("behind the page, too", good(zeros + "zero;").scan(1), 1);
        CHECK.due("zero isn't told", good(zeros).scan(9), 0);
        GuestPages x = good("smart;" + zeros);
        x.scan(5);
        CHECK.due("smart is told", x.page(0, 0, 3), 3);
        GuestPages y = good(zeros);
        y.scan(5);
        CHECK.due("smart isn't told", y.page(0, 0, 3), 9);
        Check.machine(x, zeros);
        CHECK.due("a machine anew isn't smart", x.scan(5) + x.page(0, 0, 3), 9);
        GuestPages z = good("zero;" + zeros);
        Check.machine(z, zeros);
        CHECK.due("a machine anew isn't zero", z.scan(5), 0);
    }

    // NUMBERS (1 to 3 digits); 2: a NUMBER of 4 digits or more
    private static void numbersOfThreeDigits() {
        CHECK.due("one digit", good("frames 7;").count(0), 7);
        CHECK.due("two", good("frames 07;").count(0), 7);
        CHECK.due("three", good("frames 007;").count(0), 7);
        faultDue("frames 0007;", 2, 7);
        faultDue("frames 00007;", 2, 7);
        faultDue("frames 4294967297;", 2, 7);
        faultDue("guest1;page 0000 0 0 0 0 0;", 2, 12);
        faultDue("guest1;page 0 0000 0 0 0 0;", 2, 14);
        faultDue("guest1;page 0 0 0 0 0 0000;", 2, 22);
        faultDue("guest1;advise 0 0 0000;", 2, 18);
        faultDue("share 0002;", 2, 6);
        faultDue("rate 0001 1;", 2, 5);
        faultDue("rate 1 0001;", 2, 7);
        // where no NUMBER can stand, its length doesn't count
        faultDue("zero 0001;", 1, 5);
        faultDue("1234;", 1, 0);
        faultDue("12;", 1, 0);
    }

    // TOKENS: words (a .. z), NUMBERS, the sign ; and blanks (32, 10); 1: a TOKEN that .. is none
    private static void bytesThatAreNoTokens() {
        for (int sign = 0; sign < 256; sign++) {
            boolean blank = sign == 32 || sign == 10;
            boolean word = sign >= 'a' && sign <= 'z';
            boolean digit = sign >= '0' && sign <= '9';
            String it = String.valueOf((char) sign);
            // behind "zero": a blank counts for nothing, a letter makes another word, all else but ; can't stand
            int place = word ? 0 : 4;
            if (blank || sign == ';') {
                good("zero" + it + (blank ? ";" : ""));
            } else {
                faultDue("zero" + it + ";", 1, place);
            }
            // as a NUMBER's digit
            if (digit) {
                CHECK.due("digit " + sign, good("frames 1" + it + ";").count(0), 10 + sign - '0');
            } else if (!blank && sign != ';') {
                faultDue("frames 1" + it + ";", 1, 8);
            }
            // where a clause begins
            if (!blank) {
                faultDue("zero;" + it, 1, 5);
            }
        }
    }

    private static void blanksCountForNothing() {
        good(" \n\n  zero \n ; \n smart\n;\n");
        CHECK.due("no blanks", good("frames9;guest3 1;page0 2 1 2 3 4;advise0 1 2;").count(7), 2);
        faultDue("ze ro;", 1, 0);
        faultDue("frames 1 2;", 1, 9);
        CHECK.due("between digits two numbers", good("guest 1 2;").guest(0, 1), 2);
        good(BLANK.repeat(700));
        good("\n".repeat(700));
        good(BLANK.repeat(695) + "zero;");
        faultDue(BLANK.repeat(696) + "zero", 1, 700);
        faultDue(BLANK.repeat(699) + "x", 1, 699);
    }

    /**
     * 1: the text's length where it ends too soon. A text is cut at each byte: within a word that is no token that can
     * stand, behind a ; and blanks all is good, anywhere else it ends too soon.
     */
    private static void endsTooSoon() {
        String text = "frames 9; share 3;rate 2 5;zero;\nsmart ;guest 4 ;guest 6 2;page 1 5 1 2 3 4 ; page 0 0 9 8 7 6;"
                + "advise 1 2 5;advise 0 3 3 ;";
        CHECK.due("as a whole", Check.machine(new GuestPages(), text), 0);
        for (int n = 0; n <= text.length(); n++) {
            String cut = text.substring(0, n);
            String bare = cut.replaceAll("[ \\n]+$", "");
            boolean within = n > 0 && n < text.length() && isLetter(text, n - 1) && isLetter(text, n);
            // 'guest 4' and the like may end behind REALM or ahead of it: both are too soon
            if (bare.isEmpty() || bare.endsWith(";")) {
                good(cut);
            } else if (within) {
                int begin = n;
                while (begin > 0 && isLetter(text, begin - 1)) {
                    begin--;
                }
                faultDue(cut, 1, begin);
            } else {
                faultDue(cut, 1, n);
            }
        }
    }

    private static boolean isLetter(String text, int i) {
        return text.charAt(i) >= 'a' && text.charAt(i) <= 'z';
    }

    // FAULTS, the first along the text, at a TOKEN's first byte
    private static void theFirstFaultCounts() {
        faultDue("frames 49;zero;zero;x", 2, 7);
        faultDue("zero;zero;frames 49;", 5, 5);
        faultDue("guest1;page 0 1 0 0 0 0;zero;zero;", 3, 14);
        faultDue("zero;  frames\n\n0490;", 2, 15);
        faultDue("share 2;share 1;", 5, 8);
        faultDue("guest 1;page 0 0 0 0 0 0;page 0 0 99 0 0 0;", 4, 32);
        faultDue("guest 1;page 0 1 99 0 0 0;", 3, 15);
        faultDue("guest 1;page 1 99 0 0 0 0;", 3, 13);
        faultDue("guest 1;page 4 99 0 0 0 0;", 2, 13);
        faultDue("page 0;", 3, 5);
        faultDue("frames 1 x", 1, 9);
    }

    // of one TOKEN the least: 'frames' behind any 'page', and told twice
    private static void ofOneTokenTheLeast() {
        faultDue("guest1;page 0 0 0 0 0 0;frames 9;", 4, 24);
        faultDue("frames 9;guest1;page 0 0 0 0 0 0;frames 9;", 4, 33);
        faultDue("frames 9;guest1;frames 9;", 5, 16);
        faultDue("frames 9;frames;", 5, 9);
        faultDue("guest1;advise 0 0 0;frames 9;", 0, -1);
        faultDue("share 4;guest1;page 0 0 0 0 0 0;share 4;", 5, 32);
        faultDue("rate 1 1;rate;", 5, 9);
        faultDue("zero;smart;zero;", 5, 11);
        faultDue("smart;zero;smart;", 5, 11);
        // a PAGE told again that is above 11 can't be; one of 4 digits is too much
        faultDue("guest1;page 0 0 0 0 0 0;page 0 0000 0 0 0 0;", 2, 31);
        // behind a page only 'frames' can't be
        good("guest1;page 0 0 0 0 0 0;share 3;rate 1 2;zero;smart;guest 2;advise 1 0 1;");
    }

    // 2: the 'page' for which no FRAME is left; by 'page' a PAGE lies in a FRAME (0, then 1 ..)
    private static void aPageForWhichNoFrameIsLeft() {
        StringBuilder text = new StringBuilder("guest12;guest12;guest12;");
        for (int i = 0; i < 24; i++) {
            text.append("page").append(i / 12).append(' ').append(i % 12).append(" 0 0 0 0;");
        }
        GuestPages x = good(text.toString());
        CHECK.due("all of 24 are used", x.count(1), 24);
        for (int i = 0; i < 24; i++) {
            CHECK.due("its frame", x.page(i / 12, i % 12, 0), i);
        }
        faultDue(text + "page2 0 0 0 0 0;", 2, text.length());
        faultDue(text + "page", 2, text.length());
        faultDue("frames1;guest2;page0 0 0 0 0 0;page0 0 0 0 0 0;", 2, 31);
        good("frames2;guest2;page0 0 0 0 0 0;page0 1 0 0 0 0;");
        faultDue("frames2;guest2;page0 0 0 0 0 0;page0 1 0 0 0 0;page 0 0 0 0 0 0;", 2, 47);
        StringBuilder most = new StringBuilder("frames40;guest12;guest12;guest12;guest12;");
        for (int i = 0; i < 40; i++) {
            most.append("page").append(i / 10).append(' ').append(i % 10).append(" 0 0 0 0;");
        }
        CHECK.due("as many as the tape lets be told", good(most.toString()).count(1), 40);
        CHECK.due("so long", most.length() <= 700 && most.length() > 680, true);
    }

    // 2: a GUEST, a PAGE above 3, above 11; 3: one that isn't told ahead, a second PAGE of an 'advise' below the first
    private static void guestsAndPagesToldAhead() {
        String four = "guest12;guest1;guest1;guest1;";
        good(four + "page 3 0 0 0 0 0;");
        faultDue(four + "page 4 0 0 0 0 0;", 2, 34);
        good(four + "page 0 11 0 0 0 0;");
        faultDue(four + "page 0 12 0 0 0 0;", 2, 36);
        faultDue(four + "page 3 1 0 0 0 0;", 3, 36);
        faultDue(four + "page 3 11 0 0 0 0;", 3, 36);
        faultDue(four + "page 3 12 0 0 0 0;", 2, 36);
        good(four + "advise 3 0 0;");
        faultDue(four + "advise 4 0 0;", 2, 36);
        good(four + "advise 0 11 11;");
        faultDue(four + "advise 0 12 11;", 2, 38);
        faultDue(four + "advise 0 11 12;", 2, 41);
        faultDue(four + "advise 0 11 10;", 3, 41);
        faultDue(four + "advise 3 0 1;", 3, 40);
        faultDue(four + "advise 3 1 0;", 3, 38);
        CHECK.due("all of twelve", good(four + "advise 0 0 11;").guest(0, 4), 12);
        faultDue("page 0 0 0 0 0 0;guest 1;", 3, 5);
        faultDue("advise 0 0 0;guest 1;", 3, 7);
        faultDue("guest 1;advise 1 0 0;guest 1;", 3, 15);
        faultDue("page 3 0 0 0 0 0;", 3, 5);
        faultDue("guest 12;advise 0 1 0;", 3, 20);
        good("guest 12;advise 0 1 1;");
    }

    // 4: a PAGE by 'page' again (at PAGE)
    private static void pagesAgain() {
        faultDue("guest2;page 0 1 0 0 0 0;page 0 1 0 0 0 0;", 4, 31);
        good("guest2;page 0 1 0 0 0 0;page 0 0 0 0 0 0;");
        good("guest2;guest2;page 0 1 0 0 0 0;page 1 1 0 0 0 0;");
        faultDue("guest2;guest2;page 0 1 0 0 0 0;page 1 1 0 0 0 0;page 1 1 0 0 0 0;", 4, 55);
    }

    // also if its CELLS are 0; those that are already, too
    private static void told() {
        GuestPages x = good("guest 3;page 0 2 0 0 0 0;page 0 0 0 0 0 1;advise 0 0 1;advise 0 0 2;advise 0 1 1;");
        CHECK.due("0 lies in a frame", x.page(0, 2, 0), 0);
        CHECK.due("then 1", x.page(0, 0, 0), 1);
        CHECK.due("one that isn't told is absent", x.page(0, 1, 0), -1);
        CHECK.due("advised", x.count(7), 3);
        CHECK.due("own", x.page(0, 2, 1), 0);
        CHECK.due("never scanned", x.page(0, 2, 3), 0);
        CHECK.due("no sum", x.page(0, 2, 4), -1);
    }

    // promise 1: a MACHINE of 24 FRAMES, no GUESTS, all as without
    private static void newObject() {
        GuestPages x = new GuestPages();
        GuestPages y = new GuestPages();
        y.machine(0);
        CHECK.due("as a machine of an empty text", Snap.of(x).equals(Snap.of(y)), true);
        CHECK.noSuch("no guest", x, () -> x.guest(0, 0));
        CHECK.noSuch("no frame 24", x, () -> x.frame(24, -1));
        CHECK.due("frame 23", x.frame(23, -1), 0);
        CHECK.due("no acts", x.undo(), -1);
        CHECK.due("no image", x.restore(), false);
        CHECK.refuses("rate is 1", x, 1, () -> x.rate(1));
        CHECK.refuses("least is 1", x, 1, () -> x.rate(0));
        CHECK.refuses("most is 8", x, 1, () -> x.rate(9));
        for (int realm = 0; realm < 3; realm++) {
            CHECK.due("no knots", x.knot(realm, true, -1, 0) + x.knot(realm, false, -1, 0), 0);
        }
    }

    // promise 2: NONE, and none come, if it would have more than 700
    private static void tapeOfSevenHundred() {
        GuestPages x = new GuestPages();
        CHECK.due("empty", x.count(24), 0);
        for (int i = 1; i <= 35; i++) {
            CHECK.due("how many it has", x.feed(0x20202020, 0x20202020, 0x20202020, 0x20202020, 0x20202020), 20 * i);
            CHECK.due("count 24", x.count(24), 20 * i);
        }
        for (int i = 0; i < 2; i++) {
            CHECK.asks("full", x, () -> x.feed(-1, -1, -1, -1, -1), -1);
        }
        CHECK.due("nothing has come", x.machine(700), 0);
        CHECK.due("empty then", x.count(24), 0);
        CHECK.due("the first again", x.feed(0, 0, 0, 0, 0), 20);
        GuestPages y = new GuestPages();
        Check.feed(y, "zero;" + BLANK.repeat(675));
        CHECK.due("680", y.count(24), 680);
        CHECK.due("the last twenty", y.feed(0x7a65726f, 0x3b202020, 0x20202020, 0x20202020, 0x20202020), 700);
        CHECK.due("are there", y.machine(700), 5);
        CHECK.due("at 680", y.fault(), 680);
    }

    // of each number the highest first
    private static void highestByteFirst() {
        GuestPages x = new GuestPages();
        // "fram" "es 1" "2;zer" .. in five numbers
        x.feed(0x6672616d, 0x65732031, 0x323b7a65, 0x726f3b73, 0x6d617274);
        x.feed(0x3b202020, 0x20202020, 0x20202020, 0x20202020, 0x20202020);
        CHECK.due("twenty-one bytes", x.machine(21), 0);
        CHECK.due("frames 12", x.count(0), 12);
        x.feed(0x7a65726f, 0x3b2020ff, 0, 0, 0x80000000);
        CHECK.due("the eighth byte is none", x.machine(8), 1);
        CHECK.due("its place", x.fault(), 7);
        x.feed(0x7a65726f, 0x3b2020ff, 0, 0, 0x80000000);
        CHECK.due("seven are good", x.machine(7), 0);
        x.feed(0x20202020, 0x20202020, 0x20202020, 0x20202020, 0x2020203b);
        CHECK.due("the twentieth", x.machine(20), 1);
        CHECK.due("its place, too", x.fault(), 19);
    }

    // promise 3: the tape's first n bytes (it is empty then); IllegalArgumentException: not so many, n below 0
    private static void machineTakesTheFirstBytes() {
        GuestPages x = new GuestPages();
        Check.feed(x, "zero;zero;guest 1;");
        CHECK.illegal("21 of 20", x, () -> x.machine(21));
        CHECK.illegal("-1", x, () -> x.machine(-1));
        CHECK.illegal("most", x, () -> x.machine(Integer.MAX_VALUE));
        CHECK.illegal("least", x, () -> x.machine(Integer.MIN_VALUE));
        CHECK.due("the tape is as it was", x.count(24), 20);
        CHECK.due("five of them", x.machine(5), 0);
        CHECK.due("empty then", x.count(24), 0);
        CHECK.due("none of none", x.machine(0), 0);
        CHECK.illegal("one of none", x, () -> x.machine(1));
        Check.feed(x, "zero;zero;guest 1;  ");
        CHECK.due("all twenty", x.machine(20), 5);
        Check.feed(x, "zero;");
        CHECK.due("none of twenty", x.machine(0), 0);
        CHECK.due("empty then, too", x.count(24), 0);
    }

    /** A machine with acts, an image, candidates, merged ones, what is noted, and each STATUS. */
    private static GuestPages busy() {
        GuestPages x = Check.told("frames 6;guest 4;guest 2 1;page 0 0 1 0 0 0;page 0 1 1 0 0 0;page 0 2 2 0 0 0;"
                + "page 1 0 7 7 7 7;advise 0 0 3;advise 1 0 1;");
        x.scan(4);
        x.image();
        x.ticks(5);
        x.note(1, 2);
        x.note(21, 0);
        x.drop(0, 3);
        Check.machine(x, "?");
        return x;
    }

    // or the FAULT (all stays, but STATUS)
    private static void machineWithAFault() {
        String[] texts = {"x", "frames 0;", "page 0 0 0 0 0 0;", "guest1;page 0 0 0 0 0 0;frames 1;", "zero;zero;"};
        for (int i = 0; i < texts.length; i++) {
            GuestPages x = busy();
            GuestPages y = busy();
            CHECK.due(texts[i], Check.machine(x, texts[i]), i + 1);
            CHECK.due("STATUS 0", x.count(25), 2);
            CHECK.due("STATUS 1", x.count(26), 1);
            CHECK.due("STATUS 2", x.count(27), 1);
            Check.machine(y, texts[i]);
            CHECK.due("like its twin", Snap.of(x).equals(Snap.of(y)), true);
            CHECK.due("acts stay", x.count(22), 2);
            CHECK.due("what is noted stays", x.count(23), 1);
            CHECK.due("pages stay", x.count(5), 2);
            CHECK.due("an act is undone", x.undo(), 1);
            CHECK.due("the image stays", x.restore(), true);
            CHECK.due("acts of the image", x.count(22), 1);
        }
    }

    // 0: all anew; ACTS, what is NOTED, the image are gone
    private static void machineWithout() {
        GuestPages x = busy();
        String text = "frames 7;guest 3;page 0 2 1 0 0 0;advise 0 0 2;";
        CHECK.due("anew", Check.machine(x, text), 0);
        CHECK.due("as a new one", Snap.of(x).equals(Snap.of(Check.told(text))), true);
        CHECK.due("no acts", x.undo(), -1);
        CHECK.due("no image", x.restore(), false);
        CHECK.due("nothing noted", x.count(23), 0);
        CHECK.due("all without", x.guess(0, 0, 0, 2), 1);
        CHECK.due("STATUS 0 stays", x.count(25), 1);
        CHECK.due("STATUS 1 stays", x.count(26), 1);
        CHECK.due("STATUS 2 stays", x.count(27), 1);
        CHECK.due("the same again", Check.machine(x, text), 0);
        CHECK.due("is the same", Snap.of(x).equals(Snap.of(Check.told(text))), true);
        GuestPages y = busy();
        y.machine(0);
        CHECK.due("an empty text", Snap.of(y).equals(Snap.of(new GuestPages())), true);
    }

    // all anew: nothing of what was asked about the machine ahead is left
    private static void machineBehindQuestions() {
        String text = "frames 9;guest 2;guest 4;page 1 3 1 0 0 0;advise 0 0 1;advise 1 0 3;";
        String[] ahead = {
            "smart;zero;guest 4;page 0 0 1 0 0 0;page 0 1 1 0 0 0;page 0 2 5 0 0 0;page 0 3 9 0 0 0;advise 0 0 3;",
            "guest 2;guest 12 1;page 1 0 3 3 3 3;page 1 11 3 3 3 3;page 1 4 8 0 0 0;advise 0 0 1;advise 1 0 11;",
            "frames 2;rate 3 9;guest 6 2;page 0 5 1 0 0 0;page 0 4 1 0 0 0;advise 0 1 5;"};
        for (String was : ahead) {
            for (int ticks = 0; ticks <= 60; ticks += 3) {
                GuestPages x = Check.told(was);
                x.scan(4);
                x.then(ticks, 0);
                CHECK.due("anew", Check.machine(x, text), 0);
                GuestPages y = Check.told(text);
                CHECK.due("as a new one", Snap.of(x).equals(Snap.of(y)), true);
                x.write(0, 0, 3, 1);
                y.write(0, 0, 3, 1);
                x.scan(20);
                y.scan(20);
                CHECK.due("it goes on as a new one", Snap.of(x).equals(Snap.of(y)), true);
            }
        }
    }

    /** For orders: twelve pages, one other guest. */
    private static GuestPages twelve() {
        return Check.told("frames 14;guest 12;guest 1 1;page 0 0 1 2 3 4;page 0 11 5 6 7 8;page 1 0 1 2 3 4;"
                + "advise 0 0 11;advise 1 0 0;");
    }

    private static void ordersDue(String text, int answer, int place) {
        GuestPages x = twelve();
        String was = Snap.of(x);
        CHECK.due("orders \"" + text + "\"", Check.orders(x, text), answer);
        CHECK.due("fault of \"" + text + "\"", x.fault(), place);
        CHECK.due("STATUS 0 by \"" + text + "\"", x.count(25), answer < 0 && answer > -100 ? 1 : 0);
        CHECK.due("STATUS 1 by \"" + text + "\"", x.count(26), answer <= -100 ? 1 : 0);
        CHECK.due("STATUS 2 by \"" + text + "\"", x.count(27), 0);
        CHECK.due("acts by \"" + text + "\"", x.count(22), answer > 0 ? 1 : 0);
        if (answer > 0) {
            CHECK.due("undone", x.undo(), 0);
        }
        CHECK.due("as ahead of \"" + text + "\"", Snap.of(x).equals(was), true);
    }

    // 'write' GUEST PAGE NUMBER CELL (which CELL: 0 to 3), 'copy', 'drop', 'scan', 'tick', with FAULTS 1 to 3
    private static void ordersEach() {
        ordersDue("write 0 0 0 0;", 1, -1);
        ordersDue("write 0 11 3 15;", 1, -1);
        ordersDue("write 1 0 3 15;", 1, -1);
        ordersDue("write 0 0 4 0;", -12, 10);
        ordersDue("write 0 0 3 16;", -12, 12);
        ordersDue("write 0 0 0003 1;", -12, 10);
        ordersDue("write 0 12 0 0;", -12, 8);
        ordersDue("write 1 1 0 0;", -13, 8);
        ordersDue("write 1 11 0 0;", -13, 8);
        ordersDue("write 2 0 0 0;", -13, 6);
        ordersDue("write 3 0 0 0;", -13, 6);
        ordersDue("write 4 0 0 0;", -12, 6);
        ordersDue("copy 0 0 1 0;", 1, -1);
        ordersDue("copy 1 0 0 11;", 1, -1);
        ordersDue("copy 1 1 0 0;", -13, 7);
        ordersDue("copy 2 0 0 0;", -13, 5);
        ordersDue("copy 4 0 0 0;", -12, 5);
        ordersDue("copy 0 12 0 0;", -12, 7);
        ordersDue("copy 0 0 1 1;", -13, 11);
        ordersDue("copy 0 0 2 0;", -13, 9);
        ordersDue("copy 0 0 4 0;", -12, 9);
        ordersDue("copy 0 0 0 12;", -12, 11);
        ordersDue("drop 0 11;", 1, -1);
        ordersDue("drop 1 0;", 1, -1);
        ordersDue("drop 0 12;", -12, 7);
        ordersDue("drop 1 1;", -13, 7);
        ordersDue("drop 2 0;", -13, 5);
        ordersDue("drop 4 0;", -12, 5);
        ordersDue("scan 1;", 1, -1);
        ordersDue("scan 100;", 1, -1);
        ordersDue("scan 0;", -12, 5);
        ordersDue("scan 101;", -12, 5);
        ordersDue("scan 0001;", -12, 5);
        ordersDue("tick 1;", 1, -1);
        ordersDue("tick 20;", 1, -1);
        ordersDue("tick 0;", -12, 5);
        ordersDue("tick 21;", -12, 5);
        ordersDue("tick 0001;", -12, 5);
        // words of a machine, or of the face, are none of these
        String[] others = {"frames 1", "share 2", "rate 1 1", "zero", "smart", "guest 1", "page 0 1 0 0 0 0", "advise 0 0 0",
            "ticks 1", "scans 1", "writes 0 0 0 0", "undo", "wri", "dro 0 0", "z", ""};
        for (String other : others) {
            ordersDue(other + ";", -11, 0);
            ordersDue("tick 1;" + other + ";", -11, 7);
        }
        ordersDue("tick 1;scan 0;drop 9 9;", -12, 12);
        ordersDue("drop 0 0;drop 0 0;drop 0 12;", -12, 25);
        GuestPages x = twelve();
        Check.orders(x, "write 0 0 2 9;copy 0 1 0 0;");
        CHECK.due("which cell, then what", x.read(0, 0, 2), 9);
        CHECK.due("the first of copy is written", x.read(0, 1, 2), 9);
    }

    // 2: a NUMBER of 4 digits or more, at each place where a NUMBER can stand
    private static void ordersOfFourDigits() {
        String[] orders = {"write 0 0 0 0;", "copy 0 0 0 0;", "drop 0 0;", "scan 1;", "tick 1;"};
        for (String order : orders) {
            for (int i = 0; i < order.length(); i++) {
                if (order.charAt(i) == '0' || order.charAt(i) == '1') {
                    String digit = order.substring(i, i + 1);
                    String ahead = order.substring(0, i);
                    String behind = order.substring(i + 1);
                    ordersDue(ahead + "00" + digit + behind, 1, -1);
                    ordersDue(ahead + "000" + digit + behind, -12, i);
                    ordersDue(ahead + "0000" + digit + behind, -12, i);
                    ordersDue(ahead + "1000" + behind, -12, i);
                    ordersDue(ahead + "4294967296" + behind, -12, i);
                }
            }
        }
    }

    // 1: the text's length where it ends too soon, as for a machine
    private static void ordersEndTooSoon() {
        String text = "write 0 5 2 7; copy 0 1 1 0 ;drop 0 5;\nscan 3;tick 2 ;";
        for (int n = 0; n <= text.length(); n++) {
            String cut = text.substring(0, n);
            String bare = cut.replaceAll("[ \\n]+$", "");
            boolean within = n > 0 && n < text.length() && isLetter(text, n - 1) && isLetter(text, n);
            if (bare.isEmpty() || bare.endsWith(";")) {
                ordersDue(cut, bare.replaceAll("[^;]", "").length(), -1);
            } else if (within) {
                int begin = n;
                while (begin > 0 && isLetter(text, begin - 1)) {
                    begin--;
                }
                ordersDue(cut, -11, begin);
            } else {
                ordersDue(cut, -11, n);
            }
        }
    }

    // a TEXT of at most 700 bytes: as many orders as it can tell
    private static void ordersOfTheWholeTape() {
        ordersDue("scan1;".repeat(116), 116, -1);
        ordersDue("scan1;".repeat(116) + "    ", 116, -1);
        ordersDue("scan1;".repeat(116) + "   x", -11, 699);
        ordersDue("scan100;".repeat(87), 87, -1);
        ordersDue("tick1;".repeat(115) + "drop0 0;", 116, -1);
        ordersDue("tick1;".repeat(115) + "drop0 1;", -215, -1);
    }

    // Together they are one ACT (none, if there are none)
    private static void ordersEmpty() {
        ordersDue("", 0, -1);
        ordersDue(" \n", 0, -1);
        ordersDue(BLANK.repeat(700), 0, -1);
        GuestPages x = new GuestPages();
        CHECK.due("without guests", Check.orders(x, "scan 1;tick 1;"), 2);
        CHECK.due("one act", x.count(22), 1);
        CHECK.due("the time", x.count(12), 1);
        CHECK.due("no guest is told", Check.orders(x, "drop 0 0;"), -13);
    }

    // if one would be refused as an ACT, all is as ahead of the first; -100 less which one (0 on)
    private static void ordersRefused() {
        ordersDue("drop 0 1;", -100, -1);
        ordersDue("tick 1;drop 0 1;", -101, -1);
        ordersDue("drop 0 0;scan 9;drop 0 0;tick 1;", -102, -1);
        ordersDue("drop 0 0;write 0 0 0 0;drop 0 0;", 3, -1);
        GuestPages x = Check.told("frames 2;guest 3;page 0 0 1 0 0 0;page 0 1 1 0 0 0;advise 0 0 1;");
        x.scan(4);
        x.write(0, 2, 0, 1);
        x.note(3, 3);
        CHECK.due("none is free", x.count(1), 2);
        String was = Snap.of(x);
        String[] refused = {"write 0 0 0 1;", "copy 0 1 0 0;", "copy 0 0 0 0;", "drop 0 2;tick 3;write 0 0 0 1;copy 0 2 0 0;"};
        int[] which = {-100, -100, -100, -103};
        for (int i = 0; i < refused.length; i++) {
            CHECK.due(refused[i], Check.orders(x, refused[i]), which[i]);
            CHECK.due("STATUS 1: one each", x.count(26), i + 1);
            CHECK.due("all as ahead of the first", Snap.of(x).equals(was), true);
        }
        CHECK.due("STATUS 0", x.count(25), 0);
        CHECK.due("a free one is enough", Check.orders(x, "drop 0 2;write 0 0 0 1;write 0 1 0 1;"), 3);
        fortyStay();
    }

    /** Orders that are refused, or have a fault, push none of forty acts out; those that are done push out one. */
    private static void fortyStay() {
        GuestPages x = Check.told("guest 1;");
        for (int i = 0; i < 40; i++) {
            x.ticks(1);
        }
        CHECK.due("refused", Check.orders(x, "tick 1;drop 0 0;"), -101);
        CHECK.due("a fault", Check.orders(x, "tick 0;"), -12);
        CHECK.due("none", Check.orders(x, ""), 0);
        CHECK.due("kept", x.count(22), 40);
        for (int i = 39; i >= 0; i--) {
            CHECK.due("left", x.undo(), i);
        }
        CHECK.due("all are undone", x.count(12), 0);
        for (int i = 0; i < 40; i++) {
            x.ticks(1);
        }
        CHECK.due("done", Check.orders(x, "tick 1;tick 1;"), 2);
        for (int i = 39; i >= 0; i--) {
            CHECK.due("left", x.undo(), i);
        }
        CHECK.due("the first is out", x.count(12), 1);
    }

    // TICKS as for ACTS: not above 9999
    private static void ordersUpToTheLastTime() {
        GuestPages x = Check.told("guest 1;");
        for (int i = 0; i < 5; i++) {
            CHECK.due("up to 1980 more", Check.orders(x, "tick20;".repeat(99)), 99);
        }
        CHECK.due("up to 9990", Check.orders(x, "tick20;tick20;tick20;tick20;tick10;"), 5);
        CHECK.due("the time", x.count(12), 9990);
        CHECK.due("10000 by the second", Check.orders(x, "tick 9;tick 1;"), -101);
        CHECK.due("10000 by one", Check.orders(x, "scan 1;tick 10;"), -101);
        CHECK.due("STATUS 1", x.count(26), 2);
        CHECK.due("9999 by the second", Check.orders(x, "tick 8;tick 1;"), 2);
        CHECK.due("the time", x.count(12), 9999);
        CHECK.due("scans can be", Check.orders(x, "scan 100;"), 1);
        CHECK.due("ticks can't", Check.orders(x, "tick 1;"), -100);
    }

    // IllegalArgumentException likewise
    private static void ordersIllegal() {
        GuestPages x = twelve();
        Check.orders(x, "scan 0;");
        Check.feed(x, "scan 1;");
        CHECK.illegal("21 of 20", x, () -> x.orders(21));
        CHECK.illegal("-1", x, () -> x.orders(-1));
        CHECK.illegal("most", x, () -> x.orders(Integer.MAX_VALUE));
        CHECK.illegal("least", x, () -> x.orders(Integer.MIN_VALUE));
        CHECK.due("the tape stays", x.count(24), 20);
        CHECK.due("all twenty", x.orders(20), 1);
        CHECK.due("empty then", x.count(24), 0);
        CHECK.illegal("one of none", x, () -> x.orders(1));
        CHECK.due("none of none", x.orders(0), 0);
    }

    // promise 5: the place of the latest machine()'s, orders()'s FAULT; NONE without
    private static void places() {
        GuestPages x = new GuestPages();
        CHECK.asks("at first", x, x::fault, -1);
        Check.machine(x, "x");
        CHECK.asks("at 0", x, x::fault, 0);
        Check.orders(x, " x");
        CHECK.asks("of orders", x, x::fault, 1);
        Check.machine(x, "guest 1;");
        CHECK.asks("none by a machine", x, x::fault, -1);
        Check.machine(x, BLANK.repeat(696) + "zero");
        CHECK.asks("at 700", x, x::fault, 700);
        Check.orders(x, "drop 0 0;");
        CHECK.asks("refused is no fault", x, x::fault, -1);
        Check.orders(x, "tick 21;");
        x.image();
        x.restore();
        CHECK.asks("the image has none", x, x::fault, 5);
        x.ticks(1);
        x.undo();
        CHECK.asks("nor has an act", x, x::fault, 5);
    }
}
