/** All that an object can be asked about how it stands, as one text. */
final class Snap {
    private Snap() {
    }

    /** All but STATUS and the place of a fault. */
    static String of(GuestPages x) {
        StringBuilder text = new StringBuilder();
        for (int what = 0; what <= 24; what++) {
            text.append(x.count(what)).append(' ');
        }
        text.append('\n');
        for (int g = 0; g < x.count(3); g++) {
            guest(x, g, text);
        }
        for (int f = 0; f < x.count(0); f++) {
            frame(x, f, text);
        }
        for (int realm = 0; realm < 3; realm++) {
            knots(x, realm, true, text);
            knots(x, realm, false, text);
        }
        for (int what = 0; what < 3; what++) {
            text.append(x.ideal(what)).append(' ');
        }
        // how many were SCANNED in this ROUND is told by RATE behind it alone
        for (int ticks = 0; ticks <= 60; ticks += 12) {
            for (int what = 0; what < 6; what++) {
                text.append(x.then(ticks, what)).append(' ');
            }
        }
        return text.toString();
    }

    /** STATUS 0 to 2, and the place of a fault behind these. */
    static int[] status(GuestPages x) {
        return new int[] {x.count(25), x.count(26), x.count(27), x.fault()};
    }

    private static void guest(GuestPages x, int g, StringBuilder text) {
        for (int what = 0; what < 6; what++) {
            text.append(x.guest(g, what)).append(' ');
        }
        for (int p = 0; p < x.guest(g, 0); p++) {
            for (int what = 0; what < 8; what++) {
                text.append(x.page(g, p, what)).append(',');
            }
            for (int cell = 0; cell < 4; cell++) {
                text.append(x.read(g, p, cell)).append(',');
            }
            text.append(x.guess(g, p, 0, 2)).append(' ');
        }
        text.append('\n');
    }

    private static void frame(GuestPages x, int f, StringBuilder text) {
        for (int i = 0; i < x.frame(f, -1); i++) {
            text.append(x.frame(f, i)).append(',');
        }
        boolean merged = x.frame(f, -1) > 0 && x.page(x.frame(f, 0) / 12, x.frame(f, 0) % 12, 1) == 1;
        for (int i = 0; merged && i < x.chain(f, -1); i++) {
            text.append('-').append(x.chain(f, i));
        }
        text.append(';');
    }

    private static void knots(GuestPages x, int realm, boolean stable, StringBuilder text) {
        for (int i = 0; i < x.knot(realm, stable, -1, 0); i++) {
            text.append(x.knot(realm, stable, i, 0)).append('^').append(x.knot(realm, stable, i, 1)).append(' ');
        }
        text.append('\n');
    }
}
