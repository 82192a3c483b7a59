import java.util.NoSuchElementException;

/** Counts answers that are not the ones that are due, and gives texts to an object. */
final class Check {
    /** A call that answers a number. */
    interface Call {
        long answer();
    }

    private int wrong = 0;

    void due(String what, long got, long want) {
        if (got != want) {
            wrong++;
            System.out.println(what + ": answered " + got + ", due is " + want);
        }
    }

    void due(String what, boolean got, boolean want) {
        due(what, got ? 1 : 0, want ? 1 : 0);
    }

    void noSuch(String what, Call call) {
        try {
            long got = call.answer();
            wrong++;
            System.out.println(what + ": answered " + got + ", due is NoSuchElementException");
        } catch (NoSuchElementException e) {
            return;
        }
    }

    void illegal(String what, Call call) {
        try {
            long got = call.answer();
            wrong++;
            System.out.println(what + ": answered " + got + ", due is IllegalArgumentException");
        } catch (IllegalArgumentException e) {
            return;
        }
    }

    /** A call that is refused: NONE, one more in one STATUS, and nothing else changes. */
    void refuses(String what, GuestPages x, int status, Call call) {
        String was = Snap.of(x);
        int[] counted = Snap.status(x);
        due(what, call.answer(), GuestPages.NONE);
        counted[status]++;
        same(what, x, was, counted);
    }

    /** NoSuchElementException, and nothing changes, STATUS neither. */
    void noSuch(String what, GuestPages x, Call call) {
        String was = Snap.of(x);
        int[] counted = Snap.status(x);
        noSuch(what, call);
        same(what, x, was, counted);
    }

    /** IllegalArgumentException, and nothing changes, STATUS neither. */
    void illegal(String what, GuestPages x, Call call) {
        String was = Snap.of(x);
        int[] counted = Snap.status(x);
        illegal(what, call);
        same(what, x, was, counted);
    }

    /** A call that only asks. */
    void asks(String what, GuestPages x, Call call, long want) {
        String was = Snap.of(x);
        int[] counted = Snap.status(x);
        due(what, call.answer(), want);
        same(what, x, was, counted);
    }

    private void same(String what, GuestPages x, String was, int[] counted) {
        int[] now = Snap.status(x);
        for (int i = 0; i < 3; i++) {
            due(what + ": STATUS " + i, now[i], counted[i]);
        }
        due(what + ": fault()", now[3], counted[3]);
        due(what + ": all else is as it was", Snap.of(x).equals(was), true);
    }

    void end() {
        System.out.println(wrong == 0 ? "all answers are as due" : wrong + " answers are not as due");
        System.exit(wrong == 0 ? 0 : 1);
    }

    /** Puts a text on the tape, with blanks behind it up to the next twenty. */
    static void feed(GuestPages x, String text) {
        for (int i = 0; i < text.length(); i += 20) {
            int[] five = new int[5];
            for (int k = 0; k < 20; k++) {
                int sign = i + k < text.length() ? text.charAt(i + k) : 32;
                five[k / 4] = five[k / 4] << 8 | sign;
            }
            x.feed(five[0], five[1], five[2], five[3], five[4]);
        }
    }

    static int machine(GuestPages x, String text) {
        feed(x, text);
        return x.machine(text.length());
    }

    static int orders(GuestPages x, String text) {
        feed(x, text);
        return x.orders(text.length());
    }

    /** An object with a machine. */
    static GuestPages told(String text) {
        GuestPages x = new GuestPages();
        if (machine(x, text) != 0) {
            throw new AssertionError("a fault at " + x.fault() + " of " + text);
        }
        return x;
    }
}
