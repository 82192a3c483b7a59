import java.util.NoSuchElementException;

/** Counts answers that are not the ones that are due, and gives texts to an object. */
final class Check {
    /** A call that answers a number. */
    interface Call {
        long answer();
    }

    private int wrong = 0;

    void due(String what, long got, long want) {
        if (got != want) {
            wrong++;
            System.out.println(what + ": answered " + got + ", due is " + want);
        }
    }

    void due(String what, boolean got, boolean want) {
        due(what, got ? 1 : 0, want ? 1 : 0);
    }

    void noSuch(String what, Call call) {
        try {
            long got = call.answer();
            wrong++;
            System.out.println(what + ": answered " + got + ", due is NoSuchElementException");
        } catch (NoSuchElementException e) {
            return;
        }
    }

    void illegal(String what, Call call) {
        try {
            long got = call.answer();
            wrong++;
            System.out.println(what + ": answered " + got + ", due is IllegalArgumentException");
        } catch (IllegalArgumentException e) {
            return;
        }
    }

    void end() {
        System.out.println(wrong == 0 ? "all answers are as due" : wrong + " answers are not as due");
        System.exit(wrong == 0 ? 0 : 1);
    }

    /** Puts a text on the tape, with blanks behind it up to the next twenty. */
    static void feed(GuestPages x, String text) {
        for (int i = 0; i < text.length(); i += 20) {
            int[] five = new int[5];
            for (int k = 0; k < 20; k++) {
                int sign = i + k < text.length() ? text.charAt(i + k) : 32;
                five[k / 4] = five[k / 4] << 8 | sign;
            }
            x.feed(five[0], five[1], five[2], five[3], five[4]);
        }
    }

    static int machine(GuestPages x, String text) {
        feed(x, text);
        return x.machine(text.length());
    }

    static int orders(GuestPages x, String text) {
        feed(x, text);
        return x.orders(text.length());
    }

    /** An object with a machine. */
    static GuestPages told(String text) {
        GuestPages x = new GuestPages();
        if (machine(x, text) != 0) {
            throw new AssertionError("a fault at " + x.fault() + " of " + text);
        }
        return x;
    }
}
