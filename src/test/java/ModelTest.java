import java.lang.reflect.InvocationTargetException;
import java.lang.reflect.Method;
import java.util.ArrayList;
import java.util.Arrays;
import java.util.List;
import java.util.Random;

/** Runs of calls by a seed on the class and on the model of the document: every answer must be the same. */
public final class ModelTest {
    private static final String[] ACTS = {"write", "write", "write", "copy", "copy", "drop", "advise", "scan", "scan",
        "ticks", "ticks", "rate", "undo", "orders", "orders", "image", "restore"};
    private static final String[] QUESTIONS = {"count", "guest", "read", "page", "frame", "chain", "knot", "like",
        "then", "quiet", "merges", "ideal", "probe", "toAdvise", "toRate", "note", "guess", "look", "forget", "dirt",
        "years", "fault", "feed", "machine"};

    private final Random random;
    private final List<String> log = new ArrayList<>();
    private GuestPages pages = new GuestPages();
    private Model model = new Model();
    private int wrong = 0;

    private ModelTest(long seed) {
        random = new Random(seed);
    }

    public static void main(String[] args) {
        int runs = args.length > 0 ? Integer.parseInt(args[0]) : 40;
        int first = args.length > 1 ? Integer.parseInt(args[1]) : 1;
        int wrong = 0;
        for (int seed = first; seed < first + runs && wrong == 0; seed++) {
            ModelTest test = new ModelTest(seed);
            test.run();
            wrong = test.wrong;
            if (wrong > 0) {
                System.out.println("seed " + seed + ":");
                test.log.forEach(System.out::println);
            }
        }
        System.out.println(wrong == 0 ? "the class is as the model" : "the last answer is not as the model's");
        System.exit(wrong == 0 ? 0 : 1);
    }

    private void run() {
        give(machineText(), "machine");
        for (int i = 0; i < 120 && wrong == 0; i++) {
            String name = random.nextInt(5) < 3 ? pick(ACTS) : pick(QUESTIONS);
            if (name.equals("orders")) {
                give(ordersText(), "orders");
            } else if (name.equals("machine")) {
                if (random.nextInt(3) == 0) {
                    give(spoilt(machineText()), "machine");
                }
            } else {
                callAny(name);
            }
            compareAll();
        }
    }

    private <T> T pick(T[] of) {
        return of[random.nextInt(of.length)];
    }

    /** A number mostly within bounds, now and then just outside or far off. */
    private int about(int least, int most) {
        int way = random.nextInt(40);
        if (way == 0) {
            return least - 1;
        }
        if (way == 1) {
            return most + 1;
        }
        if (way == 2) {
            return random.nextInt();
        }
        return least + random.nextInt(most - least + 1);
    }

    private int inside(int least, int most) {
        return least + random.nextInt(most - least + 1);
    }

    /** A machine with contents of a small pool, so that many are like; mostly with frames enough. */
    private String machineText() {
        StringBuilder text = new StringBuilder();
        int frames = inside(random.nextInt(4) == 0 ? 1 : 10, 30);
        text.append("frames ").append(frames).append(";");
        if (random.nextInt(3) > 0) {
            text.append("share ").append(inside(2, random.nextBoolean() ? 3 : 8)).append(";");
        }
        if (random.nextInt(3) > 0) {
            int least = inside(1, 4);
            text.append("rate ").append(least).append(' ').append(inside(least, 16)).append(";");
        }
        if (random.nextInt(3) == 0) {
            text.append("zero ;");
        }
        if (random.nextBoolean()) {
            text.append("smart\n;");
        }
        int guests = inside(random.nextInt(20) == 0 ? 0 : 1, 4);
        int[] pagesOf = new int[guests];
        boolean realms = random.nextInt(3) == 0;
        for (int g = 0; g < guests; g++) {
            pagesOf[g] = inside(1, random.nextInt(3) == 0 ? 12 : 7);
            text.append("guest ").append(pagesOf[g]);
            if (realms) {
                text.append(' ').append(inside(0, 2));
            }
            text.append(";");
        }
        int pool = inside(2, 9);
        for (int g = 0; g < guests; g++) {
            if (random.nextInt(6) > 0) {
                int from = random.nextInt(4) == 0 ? inside(0, pagesOf[g] - 1) : 0;
                text.append("advise ").append(g).append(' ').append(from).append(' ')
                        .append(random.nextInt(4) == 0 ? inside(from, pagesOf[g] - 1) : pagesOf[g] - 1).append(";");
            }
        }
        for (int g = 0; g < guests; g++) {
            for (int p = 0; p < pagesOf[g]; p++) {
                if (random.nextInt(4) > 0 && text.length() < 660 && frames-- > 0) {
                    text.append("page ").append(g).append(' ').append(p).append(content(random.nextInt(pool)))
                            .append(";");
                }
            }
        }
        return text.toString();
    }

    /** One of a few contents, some unlike in the first cell, some in the last. */
    private static String content(int i) {
        return " " + i * 5 % 4 + " " + i * 3 % 2 + " 0 " + (i > 5 ? 1 : 0);
    }

    private int anyGuest() {
        return pages.count(3) > 0 ? random.nextInt(pages.count(3)) : 0;
    }

    private int anyPage(int guest) {
        return guest < pages.count(3) ? random.nextInt(pages.guest(guest, 0)) : 0;
    }

    private String pageWords() {
        int g = anyGuest();
        return " " + g + " " + anyPage(g);
    }

    private String ordersText() {
        StringBuilder text = new StringBuilder();
        int many = random.nextInt(7);
        for (int i = 0; i < many; i++) {
            switch (random.nextInt(6)) {
                case 0 -> text.append("write").append(pageWords()).append(' ').append(inside(0, 3)).append(' ')
                        .append(inside(0, 2));
                case 1 -> text.append("copy").append(pageWords()).append(pageWords());
                case 2 -> text.append("drop").append(pageWords());
                case 3 -> text.append("scan").append(inside(1, 30));
                default -> text.append("tick ").append(inside(1, 6));
            }
            text.append(';');
        }
        return random.nextInt(4) == 0 ? spoilt(text.toString()) : text.toString();
    }

    /** With a few signs changed, put in or taken out. */
    private String spoilt(String text) {
        StringBuilder s = new StringBuilder(text);
        int many = random.nextInt(3);
        for (int i = 0; i < many && s.length() > 0; i++) {
            int at = random.nextInt(s.length());
            String signs = "0123456789; \nabz;1230Z\u0000\u00ff;zero;share 3;frames 4;guest 1;";
            switch (random.nextInt(4)) {
                case 0 -> s.setCharAt(at, signs.charAt(random.nextInt(signs.length())));
                case 1 -> s.insert(at, signs.charAt(random.nextInt(signs.length())));
                case 2 -> s.deleteCharAt(at);
                default -> {
                    int from = random.nextInt(s.length());
                    int to = from + random.nextInt(s.length() - from);
                    int semi = s.indexOf(";", at);
                    s.insert(semi < 0 ? s.length() : semi + 1, s.substring(from, to));
                }
            }
        }
        return s.length() > 700 ? s.substring(0, 700) : s.toString();
    }

    private void give(String text, String name) {
        for (int i = 0; i < text.length(); i += 20) {
            int[] five = new int[5];
            for (int k = 0; k < 20; k++) {
                int sign = i + k < text.length() ? text.charAt(i + k) : 32;
                five[k / 4] = five[k / 4] << 8 | sign;
            }
            both("feed", five[0], five[1], five[2], five[3], five[4]);
        }
        log.add("    " + text.replace("\n", "\\n"));
        both(name, text.length());
    }

    private void callAny(String name) {
        int g = random.nextInt(20) == 0 ? about(0, 3) : anyGuest();
        int p = random.nextInt(20) == 0 || g < 0 ? about(0, 11) : anyPage(g);
        int h = anyGuest();
        int q = anyPage(h);
        switch (name) {
            case "write" -> both(name, g, p, about(0, 3), random.nextInt(4) == 0 ? about(0, 15) : about(0, 2));
            case "copy" -> both(name, g, p, h, q);
            case "drop", "merges" -> both(name, g, p);
            case "advise" -> both(name, g, p, g < 0 || random.nextInt(4) == 0 ? about(0, 4) : anyPage(g),
                    random.nextInt(3) > 0);
            case "scan" -> both(name, random.nextInt(4) == 0 ? about(1, 100) : about(1, 12));
            case "ticks" -> both(name, about(1, 20));
            case "rate" -> both(name, about(1, 8));
            case "undo", "quiet", "fault", "forget", "image", "restore" -> both(name);
            case "count" -> both(name, about(0, 27));
            case "guest" -> both(name, about(0, 3), about(0, 5));
            case "read" -> both(name, g, p, about(0, 3));
            case "page" -> both(name, g, p, about(0, 7));
            case "frame", "chain" -> both(name, about(0, 20), about(-1, 5));
            case "knot" -> both(name, about(0, 2), random.nextBoolean(), about(-1, 6), about(0, 1));
            case "like" -> both(name, g, p, about(-1, 5));
            case "then" -> both(name, about(0, 60), about(0, 5));
            case "ideal" -> both(name, about(0, 2));
            case "probe" -> both(name, g, p, random.nextBoolean() ? about(0, 65535) : 4096 * random.nextInt(3),
                    about(0, 40));
            case "toAdvise" -> both(name, about(0, 40), about(0, 1));
            case "toRate" -> both(name, about(1, 20), about(0, 1));
            case "note" -> noteSomething();
            case "guess" -> both(name, g, p, about(0, 3), about(0, 2));
            case "look" -> both(name, g, p, about(0, 3), about(0, 1));
            case "dirt" -> both(name, g, p, about(1, 4), about(0, 10), about(0, 20));
            case "years" -> both(name, random.nextInt(), about(0, 60), about(0, 2));
            case "feed" -> both(name, random.nextInt(), 1, 2, 3, 4);
            default -> throw new AssertionError(name);
        }
    }

    /** Mostly what would be so, that there are guesses at all. */
    private void noteSomething() {
        int ticks = about(0, 20);
        boolean so = ticks >= 0 && ticks <= 20 && random.nextInt(3) > 0;
        both("note", ticks, so ? pages.then(ticks, 0) : about(0, 48));
    }

    private static Class<?>[] types(Object[] args) {
        return Arrays.stream(args).map(a -> a instanceof Boolean ? boolean.class : int.class).toArray(Class<?>[]::new);
    }

    private static String answer(Object target, String name, Object[] args) {
        try {
            Method method = target.getClass().getMethod(name, types(args));
            return String.valueOf(method.invoke(target, args));
        } catch (InvocationTargetException e) {
            return "throws " + e.getCause().getClass().getName();
        } catch (ReflectiveOperationException e) {
            throw new AssertionError(e);
        }
    }

    private void both(String name, Object... args) {
        String got = answer(pages, name, args);
        String want = answer(model, name, args);
        log.add(name + Arrays.toString(args) + " = " + got);
        if (!got.equals(want)) {
            log.add("    but the model's is " + want);
            wrong++;
        }
    }

    private void same(String name, Object... args) {
        String got = answer(pages, name, args);
        String want = answer(model, name, args);
        if (!got.equals(want)) {
            log.add(name + Arrays.toString(args) + " = " + got + ", but the model's is " + want);
            wrong++;
        }
    }

    private void compareAll() {
        for (int what = 0; what < 28; what++) {
            same("count", what);
        }
        same("fault");
        for (int g = 0; g < pages.count(3); g++) {
            for (int what = 0; what < 6; what++) {
                same("guest", g, what);
            }
            for (int p = 0; p < pages.guest(g, 0); p++) {
                for (int what = 0; what < 8; what++) {
                    same("page", g, p, what);
                }
                for (int cell = 0; cell < 4; cell++) {
                    same("read", g, p, cell);
                }
            }
        }
        for (int f = 0; f < pages.count(0); f++) {
            for (int i = -1; i < 5; i++) {
                same("frame", f, i);
                same("chain", f, i);
            }
        }
        for (int realm = 0; realm < 3; realm++) {
            for (int i = -1; i < 9; i++) {
                for (int what = 0; what < 2; what++) {
                    same("knot", realm, true, i, what);
                    same("knot", realm, false, i, what);
                }
            }
        }
        for (int what = 0; what < 3; what++) {
            same("ideal", what);
        }
    }
}
