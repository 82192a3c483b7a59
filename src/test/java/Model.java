import java.io.ByteArrayInputStream;
import java.io.ByteArrayOutputStream;
import java.io.IOException;
import java.io.ObjectInputStream;
import java.io.ObjectOutputStream;
import java.io.Serializable;
import java.util.ArrayDeque;
import java.util.ArrayList;
import java.util.Arrays;
import java.util.HashMap;
import java.util.HashSet;
import java.util.List;
import java.util.Map;
import java.util.NoSuchElementException;
import java.util.Set;
import java.util.TreeSet;
import java.util.regex.Matcher;
import java.util.regex.Pattern;

/** The document once more, written for plainness and with the whole library: ModelTest sets both side by side. */
public final class Model {
    private static final int NONE = -1;

    static final class Page implements Serializable {
        private static final long serialVersionUID = 1L;
        int guest;
        int number;
        int realm;
        Frame frame;
        boolean advised;
        int befell;
        int sum = NONE;
        int age;
        int rest;

        int label() {
            return 12 * guest + number;
        }

        List<Integer> cells() {
            return frame == null ? List.of(0, 0, 0, 0) : frame.cells;
        }
    }

    static final class Frame implements Serializable {
        private static final long serialVersionUID = 1L;
        int number;
        List<Integer> cells = List.of(0, 0, 0, 0);
        ArrayList<Page> pages = new ArrayList<>();
        Knot knot;
    }

    /** A knot of either tree: it has a chain, or it is a page. */
    static final class Knot implements Serializable {
        private static final long serialVersionUID = 1L;
        Knot left;
        Knot right;
        ArrayList<Frame> chain = new ArrayList<>();
        Page page;
        int realm;
    }

    static final class World implements Serializable {
        private static final long serialVersionUID = 1L;
        ArrayList<Frame> frames = new ArrayList<>();
        ArrayList<ArrayList<Page>> guests = new ArrayList<>();
        ArrayList<Page> pages = new ArrayList<>();
        int[] realms = new int[4];
        int share = 4;
        int least = 1;
        int most = 8;
        boolean zero;
        boolean smart;
        Knot[] stable = new Knot[3];
        Knot[] candidates = new Knot[3];
        int rate;
        int rounds;
        int time;
        int work;
        int scanned;
        int joined;
        int paired;
        int zeroed;
        int split;
        int cursor;
        int yield;
        int lot;

        World twin() {
            try {
                ByteArrayOutputStream bytes = new ByteArrayOutputStream();
                try (ObjectOutputStream out = new ObjectOutputStream(bytes)) {
                    out.writeObject(this);
                }
                try (ObjectInputStream in = new ObjectInputStream(new ByteArrayInputStream(bytes.toByteArray()))) {
                    return (World) in.readObject();
                }
            } catch (IOException | ClassNotFoundException e) {
                throw new AssertionError(e);
            }
        }

        Page page(int guest, int page) {
            if (guest < 0 || guest >= guests.size() || page < 0 || page >= guests.get(guest).size()) {
                throw new NoSuchElementException();
            }
            return guests.get(guest).get(page);
        }

        int used() {
            return (int) frames.stream().filter(f -> !f.pages.isEmpty()).count();
        }

        int laid() {
            return joined + paired + zeroed;
        }

        void leaveKnot(Frame f) {
            Knot k = f.knot;
            if (k != null) {
                k.chain.remove(f);
                f.knot = null;
                if (k.chain.isEmpty()) {
                    stable[k.realm] = without(stable[k.realm], k);
                }
            }
        }

        /** What is left of a tree when a knot has left it. */
        static Knot without(Knot root, Knot k) {
            if (root == null) {
                return null;
            }
            if (root != k) {
                root.left = without(root.left, k);
                root.right = without(root.right, k);
                return root;
            }
            if (k.left == null) {
                return k.right;
            }
            if (k.right == null) {
                return k.left;
            }
            Knot heir = k.right;
            while (heir.left != null) {
                heir = heir.left;
            }
            Knot right = without(k.right, heir);
            heir.left = k.left;
            heir.right = right;
            return heir;
        }

        int write(Page p, List<Integer> cells) {
            Frame old = p.frame;
            int answer;
            if (old != null && old.knot == null) {
                answer = 0;
            } else if (old != null && old.pages.size() == 1) {
                leaveKnot(old);
                answer = 3;
            } else {
                Frame free = frames.stream().filter(f -> f.pages.isEmpty()).findFirst().orElse(null);
                if (free == null) {
                    return NONE;
                }
                if (old != null) {
                    old.pages.remove(p);
                    split++;
                }
                free.pages.add(p);
                p.frame = free;
                answer = old == null ? 1 : 2;
            }
            p.frame.cells = List.copyOf(cells);
            return answer;
        }

        int writeCell(Page p, int cell, int number) {
            ArrayList<Integer> cells = new ArrayList<>(p.cells());
            cells.set(cell, number);
            return write(p, cells);
        }

        int drop(Page p) {
            Frame f = p.frame;
            if (f == null) {
                return NONE;
            }
            f.pages.remove(p);
            p.frame = null;
            if (!f.pages.isEmpty()) {
                return 0;
            }
            leaveKnot(f);
            return 1;
        }

        static Knot find(Knot root, Page p) {
            if (root == null || root.page == p) {
                return root;
            }
            Knot left = find(root.left, p);
            return left != null ? left : find(root.right, p);
        }

        Knot candidate(Page p) {
            return find(candidates[p.realm], p);
        }

        static List<Knot> inOrder(Knot root) {
            ArrayList<Knot> all = new ArrayList<>();
            if (root != null) {
                all.addAll(inOrder(root.left));
                all.add(root);
                all.addAll(inOrder(root.right));
            }
            return all;
        }

        static int depth(Knot root, Knot k) {
            if (root == null) {
                return -1000;
            }
            return root == k ? 0 : 1 + Math.max(depth(root.left, k), depth(root.right, k));
        }

        int advise(int guest, int from, int to, boolean advised) {
            int many = 0;
            for (int i = from; i <= to; i++) {
                Page p = page(guest, i);
                if (p.advised == advised) {
                    continue;
                }
                if (!advised) {
                    if (p.frame != null && p.frame.knot != null && write(p, p.cells()) == NONE) {
                        break;
                    }
                    Knot k = candidate(p);
                    if (k != null) {
                        candidates[p.realm] = without(candidates[p.realm], k);
                    }
                }
                p.advised = advised;
                many++;
            }
            return many;
        }

        /** Below, at or above; each cell that is looked at is work. */
        int compare(List<Integer> a, List<Integer> b) {
            for (int i = 0; i < 4; i++) {
                work++;
                if (!a.get(i).equals(b.get(i))) {
                    return a.get(i) < b.get(i) ? -1 : 1;
                }
            }
            return 0;
        }

        void scan() {
            Page p = null;
            for (int i = cursor; i < pages.size() && p == null; i++) {
                p = pages.get(i).advised ? pages.get(i) : null;
            }
            if (p == null) {
                p = pages.stream().filter(q -> q.advised).findFirst().orElse(null);
                if (p == null) {
                    return;
                }
                candidates = new Knot[3];
                if (yield * 4 >= lot) {
                    rate = Math.min(2 * rate, most);
                } else if (yield == 0) {
                    rate = Math.max(rate / 2, least);
                }
                yield = 0;
                lot = 0;
                rounds++;
            }
            cursor = pages.indexOf(p) + 1;
            scanned++;
            lot++;
            int before = laid();
            p.befell = meet(p);
            if (p.befell == 7 || p.befell == 9) {
                p.age++;
                p.rest = p.age < 3 ? 0 : p.age < 5 ? 1 : p.age < 8 ? 2 : 4;
            } else if (p.befell != 3) {
                p.age = 0;
                p.rest = 0;
            }
            yield += laid() - before;
        }

        int meet(Page p) {
            if (p.frame == null) {
                p.sum = NONE;
                return 1;
            }
            if (p.frame.knot != null) {
                return 2;
            }
            if (smart && p.rest > 0) {
                p.rest--;
                return 3;
            }
            List<Integer> cells = p.cells();
            if (zero && cells.equals(List.of(0, 0, 0, 0))) {
                drop(p);
                p.sum = NONE;
                zeroed++;
                return 4;
            }
            Knot above = null;
            int side = 0;
            Knot k = stable[p.realm];
            while (k != null) {
                side = compare(cells, k.chain.get(0).cells);
                if (side == 0) {
                    break;
                }
                above = k;
                k = side < 0 ? k.left : k.right;
            }
            if (k != null) {
                Frame best = null;
                for (Frame f : k.chain) {
                    if (f.pages.size() < share && (best == null || f.pages.size() > best.pages.size())) {
                        best = f;
                    }
                }
                if (best != null) {
                    move(p, best);
                    joined++;
                    return 5;
                }
            }
            int sum = (343 * cells.get(0) + 49 * cells.get(1) + 7 * cells.get(2) + cells.get(3)) % 64;
            if (p.sum != sum) {
                p.sum = sum;
                return 6;
            }
            Knot over = null;
            int turn = 0;
            Knot c = candidates[p.realm];
            while (c != null) {
                if (c.page.frame == null) {
                    return 7;
                }
                turn = compare(cells, c.page.cells());
                if (turn == 0) {
                    break;
                }
                over = c;
                c = turn < 0 ? c.left : c.right;
            }
            if (c == null) {
                Knot fresh = new Knot();
                fresh.page = p;
                hang(candidates, p.realm, over, turn, fresh);
                return 9;
            }
            candidates[p.realm] = without(candidates[p.realm], c);
            if (k == null) {
                k = new Knot();
                k.realm = p.realm;
                hang(stable, p.realm, above, side, k);
            }
            Frame f = c.page.frame;
            k.chain.add(f);
            f.knot = k;
            c.page.age = 0;
            c.page.rest = 0;
            move(p, f);
            paired++;
            return 8;
        }

        static void hang(Knot[] roots, int realm, Knot above, int side, Knot fresh) {
            if (above == null) {
                roots[realm] = fresh;
            } else if (side < 0) {
                above.left = fresh;
            } else {
                above.right = fresh;
            }
        }

        static void move(Page p, Frame to) {
            p.frame.pages.remove(p);
            to.pages.add(p);
            p.frame = to;
        }

        void tick() {
            int many = rate;
            for (int i = 0; i < many; i++) {
                scan();
            }
            time++;
        }

        World after(int ticks) {
            World w = twin();
            for (int i = 0; i < ticks; i++) {
                w.tick();
            }
            return w;
        }
    }

    private World world = fresh(24);
    private ArrayDeque<World> acts = new ArrayDeque<>();
    private ArrayList<int[]> noted = new ArrayList<>();
    private int[] status = new int[3];
    private final StringBuilder tape = new StringBuilder();
    private int fault = NONE;
    private int faultKind;
    private World imageWorld;
    private ArrayDeque<World> imageActs;
    private ArrayList<int[]> imageNoted;
    private int[] imageStatus;

    private static World fresh(int frames) {
        World w = new World();
        setFrames(w, frames);
        w.rate = 1;
        return w;
    }

    private static void setFrames(World w, int frames) {
        w.frames.clear();
        for (int i = 0; i < frames; i++) {
            Frame f = new Frame();
            f.number = i;
            w.frames.add(f);
        }
    }

    public int feed(int a, int b, int c, int d, int e) {
        if (tape.length() > 680) {
            return NONE;
        }
        for (int x : new int[] {a, b, c, d, e}) {
            for (int shift = 24; shift >= 0; shift -= 8) {
                tape.append((char) (x >> shift & 255));
            }
        }
        return tape.length();
    }

    private record Token(int at, String text) {
        boolean isNumber() {
            return !text.isEmpty() && Character.isDigit(text.charAt(0));
        }
    }

    private static List<Token> tokens(String text) {
        ArrayList<Token> all = new ArrayList<>();
        Matcher m = Pattern.compile("[a-z]+|[0-9]+|[ \\n]+|(?s:.)").matcher(text);
        while (m.find()) {
            if (!m.group().matches("[ \\n]+")) {
                all.add(new Token(m.start(), m.group()));
            }
        }
        all.add(new Token(text.length(), ""));
        return all;
    }

    /** A fault that ends the reading. */
    private static final class Wrong extends RuntimeException {
        private static final long serialVersionUID = 1L;
        final int kind;
        final int at;

        Wrong(int kind, int at) {
            this.kind = kind;
            this.at = at;
        }
    }

    private static void wrongIf(boolean wrong, int kind, Token token) {
        if (wrong) {
            throw new Wrong(kind, token.at());
        }
    }

    private static int number(Token token, int least, int most) {
        wrongIf(!token.isNumber(), 1, token);
        wrongIf(token.text().length() > 3, 2, token);
        int number = Integer.parseInt(token.text());
        wrongIf(number < least || number > most, 2, token);
        return number;
    }

    private static int guestIn(World w, Token token) {
        int guest = number(token, 0, 3);
        wrongIf(guest >= w.guests.size(), 3, token);
        return guest;
    }

    private static Page pageIn(World w, int guest, Token token) {
        int page = number(token, 0, 11);
        wrongIf(page >= w.guests.get(guest).size(), 3, token);
        return w.page(guest, page);
    }

    private static void sign(Token token) {
        wrongIf(!token.text().equals(";"), 1, token);
    }

    private static World build(String text) {
        World w = fresh(24);
        List<Token> all = tokens(text);
        Set<String> told = new HashSet<>();
        int placed = 0;
        int i = 0;
        while (!all.get(i).text().isEmpty()) {
            Token t = all.get(i++);
            switch (t.text()) {
                case "frames" -> {
                    wrongIf(placed > 0, 4, t);
                    wrongIf(!told.add("frames"), 5, t);
                    setFrames(w, number(all.get(i++), 1, 48));
                }
                case "share" -> {
                    wrongIf(!told.add("share"), 5, t);
                    w.share = number(all.get(i++), 2, 8);
                }
                case "rate" -> {
                    wrongIf(!told.add("rate"), 5, t);
                    w.least = number(all.get(i++), 1, 16);
                    w.most = number(all.get(i++), w.least, 16);
                }
                case "zero" -> {
                    wrongIf(!told.add("zero"), 5, t);
                    w.zero = true;
                }
                case "smart" -> {
                    wrongIf(!told.add("smart"), 5, t);
                    w.smart = true;
                }
                case "guest" -> {
                    wrongIf(w.guests.size() == 4, 2, t);
                    int many = number(all.get(i++), 1, 12);
                    int realm = all.get(i).isNumber() ? number(all.get(i++), 0, 2) : 0;
                    ArrayList<Page> its = new ArrayList<>();
                    for (int k = 0; k < many; k++) {
                        Page p = new Page();
                        p.guest = w.guests.size();
                        p.number = k;
                        p.realm = realm;
                        its.add(p);
                        w.pages.add(p);
                    }
                    w.realms[w.guests.size()] = realm;
                    w.guests.add(its);
                }
                case "page" -> {
                    wrongIf(placed == w.frames.size(), 2, t);
                    int guest = guestIn(w, all.get(i++));
                    Token at = all.get(i++);
                    Page p = pageIn(w, guest, at);
                    wrongIf(p.frame != null, 4, at);
                    List<Integer> cells = new ArrayList<>();
                    for (int k = 0; k < 4; k++) {
                        cells.add(number(all.get(i++), 0, 15));
                    }
                    p.frame = w.frames.get(placed++);
                    p.frame.pages.add(p);
                    p.frame.cells = List.copyOf(cells);
                }
                case "advise" -> {
                    int guest = guestIn(w, all.get(i++));
                    Page from = pageIn(w, guest, all.get(i++));
                    Token at = all.get(i++);
                    Page to = pageIn(w, guest, at);
                    wrongIf(to.number < from.number, 3, at);
                    w.advise(guest, from.number, to.number, true);
                }
                default -> throw new Wrong(1, t.at());
            }
            sign(all.get(i++));
        }
        w.rate = w.least;
        return w;
    }

    private String open(int n) {
        if (n < 0 || n > tape.length()) {
            throw new IllegalArgumentException();
        }
        String text = tape.substring(0, n);
        tape.setLength(0);
        fault = NONE;
        return text;
    }

    private void failed(Wrong wrong) {
        fault = wrong.at;
        faultKind = wrong.kind;
        status[0]++;
    }

    public int machine(int n) {
        String text = open(n);
        try {
            world = build(text);
        } catch (Wrong wrong) {
            failed(wrong);
            return faultKind;
        }
        acts.clear();
        noted.clear();
        imageWorld = null;
        return 0;
    }

    private static List<int[]> parseOrders(World w, String text) {
        ArrayList<int[]> found = new ArrayList<>();
        List<Token> all = tokens(text);
        int i = 0;
        while (!all.get(i).text().isEmpty()) {
            Token t = all.get(i++);
            int[] o = new int[5];
            switch (t.text()) {
                case "write" -> {
                    o[1] = guestIn(w, all.get(i++));
                    o[2] = pageIn(w, o[1], all.get(i++)).number;
                    o[3] = number(all.get(i++), 0, 3);
                    o[4] = number(all.get(i++), 0, 15);
                }
                case "copy" -> {
                    o[1] = guestIn(w, all.get(i++));
                    o[2] = pageIn(w, o[1], all.get(i++)).number;
                    o[3] = guestIn(w, all.get(i++));
                    o[4] = pageIn(w, o[3], all.get(i++)).number;
                }
                case "drop" -> {
                    o[1] = guestIn(w, all.get(i++));
                    o[2] = pageIn(w, o[1], all.get(i++)).number;
                }
                case "scan" -> o[1] = number(all.get(i++), 1, 100);
                case "tick" -> o[1] = number(all.get(i++), 1, 20);
                default -> throw new Wrong(1, t.at());
            }
            o[0] = t.text().charAt(0);
            sign(all.get(i++));
            found.add(o);
        }
        return found;
    }

    public int orders(int n) {
        String text = open(n);
        List<int[]> all;
        try {
            all = parseOrders(world, text);
        } catch (Wrong wrong) {
            failed(wrong);
            return -10 - faultKind;
        }
        World before = world.twin();
        for (int i = 0; i < all.size(); i++) {
            int[] o = all.get(i);
            int done = switch (o[0]) {
                case 'w' -> world.writeCell(world.page(o[1], o[2]), o[3], o[4]);
                case 'c' -> world.write(world.page(o[1], o[2]), world.page(o[3], o[4]).cells());
                case 'd' -> world.drop(world.page(o[1], o[2]));
                case 's' -> scans(o[1]);
                default -> ticksGo(o[1]);
            };
            if (done == NONE) {
                world = before;
                status[1]++;
                return -100 - i;
            }
        }
        if (!all.isEmpty()) {
            keep(before);
        }
        return all.size();
    }

    private int scans(int many) {
        int before = world.laid();
        for (int i = 0; i < many; i++) {
            world.scan();
        }
        return world.laid() - before;
    }

    private int ticksGo(int many) {
        if (world.time + many > 9999) {
            return NONE;
        }
        for (int i = 0; i < many; i++) {
            world.tick();
        }
        return world.time;
    }

    private void keep(World before) {
        acts.addLast(before);
        if (acts.size() > 40) {
            acts.removeFirst();
        }
    }

    private int done(World before, int answer) {
        if (answer == NONE) {
            status[1]++;
        } else {
            keep(before);
        }
        return answer;
    }

    public int fault() {
        return fault;
    }

    private static int sizes(Knot[] roots) {
        return Arrays.stream(roots).mapToInt(r -> World.inOrder(r).size()).sum();
    }

    public int count(int what) {
        World w = world;
        return switch (what) {
            case 0 -> w.frames.size();
            case 1 -> w.used();
            case 2 -> (int) w.frames.stream().filter(f -> f.knot != null).count();
            case 3 -> w.guests.size();
            case 4 -> w.pages.size();
            case 5 -> (int) w.pages.stream().filter(p -> p.frame != null && p.frame.knot != null).count();
            case 6 -> (int) w.pages.stream().filter(p -> p.frame == null).count();
            case 7 -> (int) w.pages.stream().filter(p -> p.advised).count();
            case 8 -> sizes(w.candidates);
            case 9 -> sizes(w.stable);
            case 10 -> w.rate;
            case 11 -> w.rounds;
            case 12 -> w.time;
            case 13 -> w.work;
            case 14 -> w.scanned;
            case 15 -> w.joined;
            case 16 -> w.paired;
            case 17 -> w.zeroed;
            case 18 -> w.split;
            case 19 -> w.cursor;
            case 20 -> w.yield;
            case 21 -> w.share;
            case 22 -> acts.size();
            case 23 -> noted.size();
            case 24 -> tape.length();
            case 25, 26, 27 -> status[what - 25];
            default -> throw new NoSuchElementException();
        };
    }

    public int guest(int guest, int what) {
        if (guest < 0 || guest >= world.guests.size()) {
            throw new NoSuchElementException();
        }
        List<Page> its = world.guests.get(guest);
        return switch (what) {
            case 0 -> its.size();
            case 1 -> world.realms[guest];
            case 2 -> (int) its.stream().filter(p -> p.frame == null).count();
            case 3 -> (int) its.stream().filter(p -> p.frame != null && p.frame.knot != null).count();
            case 4 -> (int) its.stream().filter(p -> p.advised).count();
            case 5 -> (int) its.stream().filter(p -> p.frame != null).map(p -> p.frame).distinct().count();
            default -> throw new NoSuchElementException();
        };
    }

    private static int at(List<Integer> cells, int cell) {
        if (cell < 0 || cell > 3) {
            throw new NoSuchElementException();
        }
        return cells.get(cell);
    }

    public int read(int guest, int page, int cell) {
        return at(world.page(guest, page).cells(), cell);
    }

    public int page(int guest, int page, int what) {
        Page p = world.page(guest, page);
        return switch (what) {
            case 0 -> p.frame == null ? NONE : p.frame.number;
            case 1 -> p.frame != null && p.frame.knot != null ? 1 : 0;
            case 2 -> p.advised ? 1 : 0;
            case 3 -> p.befell;
            case 4 -> p.sum;
            case 5 -> p.age;
            case 6 -> p.rest;
            case 7 -> world.candidate(p) != null ? 1 : 0;
            default -> throw new NoSuchElementException();
        };
    }

    private static <T> T nth(List<T> all, int i) {
        if (i < 0 || i >= all.size()) {
            throw new NoSuchElementException();
        }
        return all.get(i);
    }

    public int frame(int frame, int i) {
        Frame f = nth(world.frames, frame);
        return i == NONE ? f.pages.size() : nth(f.pages, i).label();
    }

    public int chain(int frame, int i) {
        Frame f = nth(world.frames, frame);
        if (f.knot == null) {
            throw new NoSuchElementException();
        }
        return i == NONE ? f.knot.chain.size() : nth(f.knot.chain, i).number;
    }

    public int knot(int realm, boolean stable, int i, int what) {
        if (realm < 0 || realm > 2) {
            throw new NoSuchElementException();
        }
        Knot root = (stable ? world.stable : world.candidates)[realm];
        List<Knot> all = World.inOrder(root);
        if (i == NONE) {
            return all.size();
        }
        Knot k = nth(all, i);
        return switch (what) {
            case 0 -> stable ? k.chain.get(0).number : k.page.label();
            case 1 -> World.depth(root, k);
            default -> throw new NoSuchElementException();
        };
    }

    public int like(int guest, int page, int i) {
        Page p = world.page(guest, page);
        List<Page> all = world.pages.stream().filter(q -> q != p && q.cells().equals(p.cells())).toList();
        return i == NONE ? all.size() : nth(all, i).label();
    }

    public int write(int guest, int page, int cell, int number) {
        Page p = world.page(guest, page);
        at(p.cells(), cell);
        World before = world.twin();
        return done(before, number < 0 || number > 15 ? NONE : world.writeCell(p, cell, number));
    }

    public int copy(int guest, int page, int other, int otherPage) {
        Page p = world.page(guest, page);
        Page q = world.page(other, otherPage);
        World before = world.twin();
        return done(before, world.write(p, q.cells()));
    }

    public int drop(int guest, int page) {
        Page p = world.page(guest, page);
        World before = world.twin();
        return done(before, world.drop(p));
    }

    public int advise(int guest, int from, int to, boolean advised) {
        world.page(guest, from);
        world.page(guest, to);
        World before = world.twin();
        int many = world.advise(guest, from, to, advised);
        return done(before, many == 0 ? NONE : many);
    }

    public int scan(int many) {
        World before = world.twin();
        return done(before, many < 1 || many > 100 ? NONE : scans(many));
    }

    public int ticks(int many) {
        World before = world.twin();
        return done(before, many < 1 || many > 20 ? NONE : ticksGo(many));
    }

    public int rate(int rate) {
        World before = world.twin();
        if (rate < world.least || rate > world.most || rate == world.rate) {
            return done(before, NONE);
        }
        world.rate = rate;
        return done(before, before.rate);
    }

    public int undo() {
        if (acts.isEmpty()) {
            return NONE;
        }
        world = acts.removeLast().twin();
        return acts.size();
    }

    private static void known(boolean known) {
        if (!known) {
            throw new NoSuchElementException();
        }
    }

    private static void within(int x, int least, int most) {
        if (x < least || x > most) {
            throw new IllegalArgumentException();
        }
    }

    public int then(int ticks, int what) {
        known(what >= 0 && what <= 5);
        within(ticks, 0, 60);
        Model m = new Model();
        m.world = world.after(ticks);
        return m.count(new int[] {1, 5, 8, 10, 13, 11}[what]);
    }

    public int quiet() {
        int[] laid = new int[61];
        World w = world.twin();
        laid[0] = w.laid();
        for (int t = 1; t <= 60; t++) {
            w.tick();
            laid[t] = w.laid();
        }
        int t = 0;
        while (laid[t] != laid[60]) {
            t++;
        }
        return t;
    }

    public int merges(int guest, int page) {
        world.page(guest, page);
        World w = world.twin();
        Page p = w.page(guest, page);
        for (int n = 0; n <= 400; n++) {
            if (p.frame != null && p.frame.knot != null) {
                return n;
            }
            w.scan();
        }
        return NONE;
    }

    public int ideal(int what) {
        return switch (what) {
            case 0 -> fewest();
            case 1 -> world.used() - fewest();
            case 2 -> risk();
            default -> throw new NoSuchElementException();
        };
    }

    private int fewest() {
        Map<List<Integer>, Integer> like = new HashMap<>();
        int need = 0;
        for (Page p : world.pages) {
            if (p.frame == null) {
                continue;
            }
            if (!p.advised) {
                need++;
            } else if (!(world.zero && p.cells().equals(List.of(0, 0, 0, 0)))) {
                ArrayList<Integer> key = new ArrayList<>(p.cells());
                key.add(p.realm);
                like.merge(key, 1, Integer::sum);
            }
        }
        for (int n : like.values()) {
            need += (n + world.share - 1) / world.share;
        }
        return need;
    }

    /** By writing for as long as anything that takes a frame can be written. */
    private int risk() {
        World w = world.twin();
        int written = 0;
        boolean again = true;
        while (again) {
            again = false;
            for (Page p : w.pages) {
                if (p.frame != null && (p.frame.knot == null || p.frame.pages.size() == 1)) {
                    continue;
                }
                written++;
                if (w.writeCell(p, 0, 1) == NONE) {
                    return written;
                }
                again = true;
            }
        }
        return NONE;
    }

    public int probe(int guest, int page, int cells, int ticks) {
        world.page(guest, page);
        within(cells, 0, 65535);
        within(ticks, 0, 40);
        World w = world.twin();
        Page p = w.page(guest, page);
        if (w.write(p, List.of(cells / 4096, cells / 256 % 16, cells / 16 % 16, cells % 16)) == NONE) {
            return NONE;
        }
        for (int t = 0; t < ticks; t++) {
            w.tick();
        }
        return p.frame == null ? 0 : p.frame.pages.size() - 1;
    }

    public int toAdvise(int ticks, int what) {
        known(what == 0 || what == 1);
        within(ticks, 0, 40);
        TreeSet<Integer> ways = new TreeSet<>();
        for (int g = 0; g < world.guests.size(); g++) {
            World w = world.twin();
            w.guests.get(g).forEach(p -> p.advised = true);
            ways.add(w.after(ticks).used() * 10 + g);
        }
        return ways.isEmpty() ? NONE : what == 0 ? ways.first() % 10 : ways.first() / 10;
    }

    public int toRate(int ticks, int what) {
        known(what == 0 || what == 1);
        within(ticks, 1, 20);
        TreeSet<Long> ways = new TreeSet<>();
        for (int r = world.least; r <= world.most; r++) {
            World w = world.twin();
            w.rate = r;
            w = w.after(ticks);
            ways.add(((long) w.used() << 40) + ((long) w.work << 8) + r);
        }
        return what == 0 ? (int) (ways.first() & 255) : (int) (ways.first() >> 40);
    }

    public int note(int ticks, int used) {
        if (noted.size() == 8 || ticks < 0 || ticks > 20 || used < 0 || used > 48) {
            status[2]++;
            return NONE;
        }
        noted.add(new int[] {ticks, used});
        return noted.size();
    }

    private boolean holds(int[] series) {
        return noted.stream().allMatch(n -> series[n[0]] == n[1]);
    }

    private static int[] series(World w) {
        int[] series = new int[21];
        series[0] = w.used();
        for (int t = 1; t <= 20; t++) {
            w.tick();
            series[t] = w.used();
        }
        return series;
    }

    private Map<Integer, int[]> guesses(int guest, int page, int cell) {
        Map<Integer, int[]> found = new HashMap<>();
        for (int number = 0; number < 16; number++) {
            World w = world.twin();
            Page p = w.page(guest, page);
            if (p.cells().get(cell) == number || w.writeCell(p, cell, number) == NONE) {
                continue;
            }
            int[] series = series(w);
            if (holds(series)) {
                found.put(number, series);
            }
        }
        return found;
    }

    public int guess(int guest, int page, int cell, int what) {
        at(world.page(guest, page).cells(), cell);
        known(what >= 0 && what <= 2);
        if (what == 2) {
            return holds(series(world.twin())) ? 1 : 0;
        }
        Map<Integer, int[]> found = guesses(guest, page, cell);
        return what == 0 ? found.size() : found.keySet().stream().min(Integer::compare).orElse(NONE);
    }

    public int look(int guest, int page, int cell, int what) {
        at(world.page(guest, page).cells(), cell);
        known(what == 0 || what == 1);
        Map<Integer, int[]> found = guesses(guest, page, cell);
        int best = NONE;
        int most = 0;
        for (int t = 1; t <= 20; t++) {
            int at = t;
            int unlike = (int) found.values().stream().map(s -> s[at]).distinct().count();
            if (unlike > most) {
                most = unlike;
                best = t;
            }
        }
        return what == 0 ? best : most;
    }

    public void forget() {
        noted.clear();
    }

    public int dirt(int guest, int page, int ticks, int tenths, int used) {
        world.page(guest, page);
        within(ticks, 1, 4);
        within(tenths, 0, 10);
        return likely(world, guest, page, ticks, tenths, used);
    }

    private static int likely(World w, int guest, int page, int ticks, int tenths, int used) {
        if (ticks == 0) {
            return w.used() <= used ? 1 : 0;
        }
        World dirty = w.twin();
        Page p = dirty.page(guest, page);
        dirty.writeCell(p, 0, (p.cells().get(0) + 1) % 16);
        return tenths * likely(dirty.after(1), guest, page, ticks - 1, tenths, used)
                + (10 - tenths) * likely(w.after(1), guest, page, ticks - 1, tenths, used);
    }

    private static final class Seed {
        int value;

        int draw(int n) {
            value = value * 1103515245 + 12345;
            return (value >> 16 & 0x7fff) % n;
        }
    }

    public int years(int seed, int n, int what) {
        known(what >= 0 && what <= 2);
        within(n, 0, 60);
        World w = world.twin();
        Seed draws = new Seed();
        draws.value = seed;
        int failed = 0;
        for (int t = 0; t < n; t++) {
            int kind = draws.draw(4);
            int pages = w.pages.size();
            if (kind < 3 && pages > 0) {
                Page p = w.pages.get(draws.draw(pages));
                int done = 0;
                if (kind == 0) {
                    int cell = draws.draw(4);
                    int number = draws.draw(4);
                    done = w.writeCell(p, cell, number);
                } else if (kind == 1) {
                    done = w.write(p, w.pages.get(draws.draw(pages)).cells());
                } else {
                    w.drop(p);
                }
                failed += done == NONE ? 1 : 0;
            }
            w.tick();
        }
        return switch (what) {
            case 0 -> w.laid() - world.laid();
            case 1 -> w.used();
            default -> failed;
        };
    }

    public void image() {
        imageWorld = world.twin();
        imageActs = new ArrayDeque<>(acts);
        imageNoted = new ArrayList<>(noted);
        imageStatus = status.clone();
    }

    public boolean restore() {
        if (imageWorld == null) {
            return false;
        }
        world = imageWorld.twin();
        acts = new ArrayDeque<>(imageActs);
        noted = new ArrayList<>(imageNoted);
        status = imageStatus.clone();
        return true;
    }
}
