import java.util.ArrayList;
import java.util.Comparator;
import java.util.HashMap;
import java.util.List;
import java.util.Map;
import java.util.TreeMap;
import java.util.TreeSet;

/**
 * A second reading of the document, as plain as can be and without a thought for room or speed.
 * ModelTest holds LaidOutBoxes against it; it shares no code with it.
 */
final class PlainModel {
    static final int NONE = -1, BAD = -2, STATE = -3, FULL = -4, NO_SUCH = -5;
    static final long NO = Long.MIN_VALUE;
    static final int INF = 1000;
    static final String[] NAMES =
            {"block", "text", "pad", "limit", "centre", "fit", "ratio", "layers", "row", "column"};
    static final int[][][] RANGES = {
        {{0, 99}, {0, 99}}, {{0, 12}, {0, 31}}, {{0, 20}, {0, 20}}, {{0, 99}, {0, 99}, {0, 99}, {0, 99}},
        {}, {}, {{1, 9}, {1, 9}}, {{0, 2}}, {{0, 4}, {0, 20}}, {{0, 4}, {0, 20}}};
    static final int[] TAKES = {0, 0, 1, 1, 1, 1, 1, 8, 8, 8};

    static final class B {
        int no, kind, parent;
        int[] n = new int[4];
        int share, least, most = 99;
        List<Integer> kids = new ArrayList<>();
        boolean dirty = true, based;
        Map<Integer, Integer> memo = new HashMap<>();
        int[] by;
        int x, y, w, h, over, rounds;
        boolean hadWords, stood;
        Integer greatestAbove;

        B copy() {
            B c = new B();
            c.no = no;
            c.kind = kind;
            c.parent = parent;
            c.n = n.clone();
            c.share = share;
            c.least = least;
            c.most = most;
            c.kids = new ArrayList<>(kids);
            c.dirty = dirty;
            c.based = based;
            c.memo = new HashMap<>(memo);
            c.by = by == null ? null : by.clone();
            c.x = x;
            c.y = y;
            c.w = w;
            c.h = h;
            c.over = over;
            c.rounds = rounds;
            c.hadWords = hadWords;
            c.stood = stood;
            c.greatestAbove = greatestAbove;
            return c;
        }
    }

    static final class S {
        TreeMap<Integer, B> boxes = new TreeMap<>();
        TreeSet<Integer> list = new TreeSet<>();
        List<int[]> plan = new ArrayList<>();
        int came, wide = 100, high = 100, seed = 1;
        int memosMade, skips;
        TreeSet<Integer> visited = new TreeSet<>();
        int visits;

        S copy() {
            S c = new S();
            for (B b : boxes.values()) {
                c.boxes.put(b.no, b.copy());
            }
            c.list = new TreeSet<>(list);
            for (int[] row : plan) {
                c.plan.add(row.clone());
            }
            c.came = came;
            c.wide = wide;
            c.high = high;
            c.seed = seed;
            return c;
        }

        Integer top() {
            for (B b : boxes.values()) {
                if (b.parent == -1) {
                    return b.no;
                }
            }
            return null;
        }

        int depth(int no) {
            int d = 0;
            for (int p = boxes.get(no).parent; p != -1; p = boxes.get(p).parent) {
                d++;
            }
            return d;
        }

        static boolean just(B b) {
            return b.by != null && b.by[0] == b.by[1] && b.by[2] == b.by[3];
        }

        void mark(int no) {
            B b = boxes.get(no);
            b.dirty = true;
            if (b.parent == -1 || (just(b) && b.memo.isEmpty() && !b.based)) {
                list.add(no);
            } else {
                mark(b.parent);
            }
            b.memo.clear();
        }

        void tell(int no, int what, int v) {
            B b = boxes.get(no);
            if (what < 4) {
                b.n[what] = v;
                mark(no);
                return;
            }
            if (what == 4) {
                b.share = v;
            } else if (what == 5) {
                b.least = v;
            } else {
                b.most = v;
            }
            if (b.parent != -1) {
                mark(b.parent);
            }
        }

        void screen(int w, int h) {
            wide = w;
            high = h;
            Integer t = top();
            if (t != null) {
                boxes.get(t).dirty = true;
                list.add(t);
            }
        }

        int layOut() {
            visits = 0;
            skips = 0;
            visited.clear();
            List<Integer> order = new ArrayList<>(list);
            order.sort(Comparator.<Integer>comparingInt(this::depth).thenComparingInt(i -> i));
            for (int no : order) {
                B b = boxes.get(no);
                if (b.dirty) {
                    lay(b, b.parent == -1 ? new int[] {0, wide, 0, high} : b.by.clone());
                }
            }
            list.clear();
            return visits;
        }

        static int hold(int v, int least, int most) {
            return Math.min(Math.max(v, least), most);
        }

        static int end(int told) {
            return told == 99 ? INF : told;
        }

        static int word(int b, int k) {
            int m = (b + k) % 32;
            return 1 + (7 * m * m + 3 * m) % 9;
        }

        B kid(B b) {
            return b.kids.isEmpty() ? null : boxes.get(b.kids.get(0));
        }

        void lay(B b, int[] by) {
            if (!b.dirty && java.util.Arrays.equals(by, b.by)) {
                skips++;
                return;
            }
            visits++;
            visited.add(b.no);
            b.by = by;
            b.over = 0;
            b.rounds = 0;
            b.hadWords = false;
            b.stood = false;
            b.greatestAbove = null;
            int[] size = laidSize(b, by);
            b.dirty = false;
            b.based = false;
            // places that need the box's own size were left to here
            b.w = hold(size[0], by[0], by[1]);
            b.h = hold(size[1], by[2], by[3]);
            placeKids(b);
        }

        int[] laidSize(B b, int[] by) {
            B k = kid(b);
            int a = b.n[0];
            int bb = b.n[1];
            switch (NAMES[b.kind]) {
                case "block":
                    return new int[] {a, bb};
                case "text": {
                    List<Integer> lines = new ArrayList<>();
                    for (int i = 0; i < a; i++) {
                        int w = word(bb, i);
                        int last = lines.size() - 1;
                        if (last >= 0 && lines.get(last) + 1 + w <= by[1]) {
                            lines.set(last, lines.get(last) + 1 + w);
                        } else {
                            lines.add(w);
                        }
                    }
                    b.hadWords = a > 0;
                    return new int[] {lines.stream().mapToInt(i -> i).max().orElse(0), 2 * lines.size()};
                }
                case "pad": {
                    if (k == null) {
                        return new int[] {2 * a, 2 * bb};
                    }
                    int[] in = new int[4];
                    for (int i = 0; i < 4; i++) {
                        in[i] = by[i] == INF ? INF : Math.max(0, by[i] - 2 * b.n[i / 2]);
                    }
                    lay(k, in);
                    return new int[] {k.w + 2 * a, k.h + 2 * bb};
                }
                case "limit": {
                    int[] in = {hold(a, by[0], by[1]), hold(end(bb), by[0], by[1]),
                        hold(b.n[2], by[2], by[3]), hold(end(b.n[3]), by[2], by[3])};
                    if (k == null) {
                        return new int[] {in[0], in[2]};
                    }
                    lay(k, in);
                    return new int[] {k.w, k.h};
                }
                case "centre":
                    if (k != null) {
                        lay(k, new int[] {0, by[1], 0, by[3]});
                    }
                    return new int[] {by[1] != INF ? by[1] : k == null ? 0 : k.w,
                        by[3] != INF ? by[3] : k == null ? 0 : k.h};
                case "fit": {
                    int q = hold(k == null ? 0 : ask(k, 0), by[0], by[1]);
                    if (k == null) {
                        return new int[] {q, by[2]};
                    }
                    lay(k, new int[] {q, q, by[2], by[3]});
                    return new int[] {k.w, k.h};
                }
                case "ratio": {
                    int w = by[1];
                    if (w == INF) {
                        w = by[3] == INF ? 10 * a : by[3] * a / bb;
                    }
                    int h = w * bb / a;
                    if (h > by[3]) {
                        h = by[3];
                        w = h * a / bb;
                    }
                    w = hold(w, by[0], by[1]);
                    h = hold(h, by[2], by[3]);
                    if (k != null) {
                        lay(k, new int[] {w, w, h, h});
                    }
                    return new int[] {w, h};
                }
                case "layers": {
                    int w = 0;
                    int h = 0;
                    for (int no : b.kids) {
                        B c = boxes.get(no);
                        lay(c, new int[] {0, by[1], 0, by[3]});
                        w = Math.max(w, c.w);
                        h = Math.max(h, c.h);
                    }
                    return new int[] {w, h};
                }
                default:
                    return lineSize(b, by);
            }
        }

        static int[] turned(boolean row, int alongLeast, int alongMost, int acrossLeast, int acrossMost) {
            return row ? new int[] {alongLeast, alongMost, acrossLeast, acrossMost}
                    : new int[] {acrossLeast, acrossMost, alongLeast, alongMost};
        }

        int[] lineSize(B b, int[] by) {
            boolean row = b.kind == 8;
            int m = row ? by[1] : by[3];
            int acrossMost = row ? by[3] : by[1];
            int acrossLeast = b.n[0] == 3 && acrossMost != INF ? acrossMost : 0;
            List<B> others = new ArrayList<>();
            int t = b.kids.isEmpty() ? 0 : b.n[1] * (b.kids.size() - 1);
            for (int no : b.kids) {
                B c = boxes.get(no);
                if (c.share > 0 && m != INF) {
                    others.add(c);
                    continue;
                }
                lay(c, turned(row, c.least, end(c.most), acrossLeast, acrossMost));
                t += row ? c.w : c.h;
            }
            if (!others.isEmpty()) {
                Map<B, Integer> got = rounds(b, others, Math.max(0, m - t));
                for (B c : others) {
                    lay(c, turned(row, got.get(c), got.get(c), acrossLeast, acrossMost));
                    t += row ? c.w : c.h;
                }
            }
            int along = hold(others.isEmpty() ? t : m, row ? by[0] : by[2], m);
            b.over = Math.max(0, t - along);
            int across = 0;
            for (int no : b.kids) {
                across = Math.max(across, row ? boxes.get(no).h : boxes.get(no).w);
            }
            if (row && b.n[0] == 4) {
                b.stood = true;
                int above = 0;
                int below = 0;
                for (int no : b.kids) {
                    B c = boxes.get(no);
                    askBase(c);
                    above = Math.max(above, above(c));
                    below = Math.max(below, c.h - above(c));
                }
                b.greatestAbove = b.kids.isEmpty() ? null : (Integer) above;
                across = above + below;
            }
            return row ? new int[] {along, across} : new int[] {across, along};
        }

        Map<B, Integer> rounds(B b, List<B> others, int room) {
            Map<B, Integer> frozen = new HashMap<>();
            while (frozen.size() < others.size()) {
                b.rounds++;
                List<B> open = new ArrayList<>(others);
                open.removeAll(frozen.keySet());
                int rest = Math.max(0, room - frozen.values().stream().mapToInt(i -> i).sum());
                int shares = open.stream().mapToInt(c -> c.share).sum();
                int[] gets = open.stream().mapToInt(c -> rest * c.share / shares).toArray();
                int left = rest - java.util.Arrays.stream(gets).sum();
                for (int i = 0; left > 0; i = (i + 1) % gets.length, left--) {
                    gets[i]++;
                }
                int[] held = new int[gets.length];
                for (int i = 0; i < gets.length; i++) {
                    held[i] = hold(gets[i], open.get(i).least, end(open.get(i).most));
                }
                int more = Integer.compare(java.util.Arrays.stream(held).sum(), java.util.Arrays.stream(gets).sum());
                for (int i = 0; i < gets.length; i++) {
                    if (more == 0 || (more > 0 && held[i] > gets[i]) || (more < 0 && held[i] < gets[i])) {
                        frozen.put(open.get(i), held[i]);
                    }
                }
            }
            return frozen;
        }

        int above(B c) {
            Integer base = base(c);
            return base == null ? c.h : base;
        }

        void askBase(B c) {
            c.based = true;
            if (c.by == null || c.kind < 2 || c.stood) {
                return;
            }
            for (int no : c.kids) {
                askBase(boxes.get(no));
                if (base(boxes.get(no)) != null) {
                    return;
                }
            }
        }

        Integer base(B c) {
            if (c.by == null || c.kind == 0) {
                return null;
            }
            if (c.kind == 1) {
                return c.hadWords ? 1 : null;
            }
            if (c.stood) {
                return c.greatestAbove;
            }
            for (int no : c.kids) {
                Integer in = base(boxes.get(no));
                if (in != null) {
                    return boxes.get(no).y + in;
                }
            }
            return null;
        }

        static int spot(int way, int left) {
            return way == 1 ? left / 2 : way == 2 ? left : 0;
        }

        void placeKids(B b) {
            int along = 0;
            for (int no : b.kids) {
                B c = boxes.get(no);
                c.x = 0;
                c.y = 0;
                switch (NAMES[b.kind]) {
                    case "pad":
                        c.x = b.n[0];
                        c.y = b.n[1];
                        break;
                    case "centre":
                        c.x = (b.w - c.w) / 2;
                        c.y = (b.h - c.h) / 2;
                        break;
                    case "layers":
                        c.x = spot(b.n[0], b.w - c.w);
                        c.y = spot(b.n[0], b.h - c.h);
                        break;
                    case "row":
                        c.x = along;
                        c.y = b.n[0] == 4 ? b.greatestAbove - above(c) : spot(b.n[0], b.h - c.h);
                        along += c.w + b.n[1];
                        break;
                    case "column":
                        c.y = along;
                        c.x = spot(b.n[0], b.w - c.w);
                        along += c.h + b.n[1];
                        break;
                    default:
                }
            }
        }

        int ask(B b, int what) {
            if (!b.memo.containsKey(what)) {
                b.memo.put(what, figure(b, what));
                memosMade++;
            }
            return b.memo.get(what);
        }

        int figure(B b, int what) {
            int a = b.n[0];
            B k = kid(b);
            switch (NAMES[b.kind]) {
                case "block":
                    return a;
                case "text": {
                    int sum = 0;
                    int widest = 0;
                    for (int i = 0; i < a; i++) {
                        sum += word(b.n[1], i) + (i > 0 ? 1 : 0);
                        widest = Math.max(widest, word(b.n[1], i));
                    }
                    return what == 0 ? sum : widest;
                }
                case "pad":
                    return (k == null ? 0 : ask(k, what)) + 2 * a;
                case "limit":
                    return hold(k == null ? 0 : ask(k, what), a, end(b.n[1]));
                case "centre":
                    return k == null ? 0 : ask(k, what);
                case "fit":
                    return k == null ? 0 : ask(k, 0);
                case "ratio":
                    return what == 0 ? 10 * a : a;
                case "row": {
                    int sum = 0;
                    for (int i = 0; i < b.kids.size(); i++) {
                        B c = boxes.get(b.kids.get(i));
                        sum += hold(ask(c, what), c.least, end(c.most)) + (i > 0 ? b.n[1] : 0);
                    }
                    return sum;
                }
                default: {
                    int greatest = 0;
                    for (int no : b.kids) {
                        greatest = Math.max(greatest, ask(boxes.get(no), what));
                    }
                    return greatest;
                }
            }
        }

        int overSum() {
            return boxes.values().stream().mapToInt(b -> b.over).sum();
        }

        String print(int no) {
            B b = boxes.get(no);
            StringBuilder s = new StringBuilder(NAMES[b.kind]);
            for (int i = 0; i < RANGES[b.kind].length; i++) {
                s.append(' ').append(b.n[i]);
            }
            if (b.share > 0) {
                s.append('*').append(b.share);
            }
            if (!b.kids.isEmpty()) {
                List<String> in = new ArrayList<>();
                for (int k : b.kids) {
                    in.add(print(k));
                }
                s.append('(').append(String.join(",", in)).append(')');
            }
            return s.toString();
        }
    }

    S s = new S();
    S image;
    String letters = "";
    int work, latestVisits, latestSkips, memos;
    final Object[] tapes = new Object[4];

    static boolean ok(int kind, int[] n) {
        for (int i = 0; i < RANGES[kind].length; i++) {
            if (n[i] < RANGES[kind][i][0] || n[i] > RANGES[kind][i][1]) {
                return false;
            }
        }
        return kind != 3 || (n[0] <= n[1] && n[2] <= n[3]);
    }

    boolean has(int box) {
        return s.boxes.containsKey(box);
    }

    int add(int kind, int parent, int[] n, int share) {
        B b = new B();
        b.no = s.came++;
        b.kind = kind;
        b.parent = parent;
        b.share = share;
        for (int i = 0; i < RANGES[kind].length; i++) {
            b.n[i] = n[i];
        }
        s.boxes.put(b.no, b);
        if (parent != -1) {
            s.boxes.get(parent).kids.add(b.no);
        }
        s.mark(parent == -1 ? b.no : parent);
        return b.no;
    }

    boolean full(int parent) {
        return parent == -1 ? s.top() != null
                : s.boxes.get(parent).kids.size() >= TAKES[s.boxes.get(parent).kind];
    }

    int comes(int kind, int parent, int a, int b, int c, int d) {
        int[] n = {a, b, c, d};
        if (parent != -1 && !has(parent)) {
            return NONE;
        }
        if (kind < 0 || kind > 9 || !ok(kind, n)) {
            return BAD;
        }
        if (full(parent)) {
            return STATE;
        }
        return s.came == 24 ? FULL : add(kind, parent, n, 0);
    }

    boolean mayTell(B b, int what, int v) {
        if (what < 4) {
            int[] n = b.n.clone();
            n[what] = v;
            return ok(b.kind, n);
        }
        return v >= 0 && (what == 4 ? v <= 9 : what == 5 ? v <= b.most : v >= b.least && v <= 99);
    }

    int tells(int box, int what, int v) {
        if (!has(box) || what < 0 || what > 6 || (what < 4 && what >= RANGES[s.boxes.get(box).kind].length)) {
            return NONE;
        }
        B b = s.boxes.get(box);
        if (!mayTell(b, what, v)) {
            return BAD;
        }
        int was = what < 4 ? b.n[what] : what == 4 ? b.share : what == 5 ? b.least : b.most;
        s.tell(box, what, v);
        return was;
    }

    int drops(int box) {
        if (!has(box)) {
            return NONE;
        }
        B b = s.boxes.get(box);
        int gone = remove(box);
        if (b.parent != -1) {
            s.boxes.get(b.parent).kids.remove((Integer) box);
            s.mark(b.parent);
        }
        return gone;
    }

    int remove(int box) {
        int gone = 1;
        for (int k : s.boxes.get(box).kids) {
            gone += remove(k);
        }
        s.boxes.remove(box);
        s.list.remove(box);
        return gone;
    }

    int moves(int box, int i) {
        if (!has(box) || s.boxes.get(box).parent == -1) {
            return NONE;
        }
        B p = s.boxes.get(s.boxes.get(box).parent);
        if (i < 0 || i >= p.kids.size()) {
            return BAD;
        }
        int was = p.kids.indexOf(box);
        List<Integer> before = new ArrayList<>(p.kids);
        p.kids.remove(was);
        p.kids.add(i, box);
        if (!before.equals(p.kids)) {
            s.mark(p.no);
        }
        return was;
    }

    int screen(int w, int h) {
        if (w < 0 || w > 200 || h < 0 || (h > 200 && h != 1000)) {
            return BAD;
        }
        int was = 1000 * s.wide + s.high;
        s.screen(w, h);
        return was;
    }

    int of(int box, int what) {
        if (!has(box) || what < 0 || what > 14) {
            return NONE;
        }
        B b = s.boxes.get(box);
        int memo = (b.memo.containsKey(0) ? 1 : 0) + (b.memo.containsKey(1) ? 2 : 0);
        return new int[] {b.kind, b.parent, b.kids.size(), b.n[0], b.n[1], b.n[2], b.n[3], b.share, b.least, b.most,
            b.dirty ? 1 : 0, s.list.contains(box) ? 1 : 0, memo, b.based ? 1 : 0, s.depth(box)}[what];
    }

    int child(int box, int i) {
        return !has(box) || i < 0 || i >= s.boxes.get(box).kids.size() ? NONE : s.boxes.get(box).kids.get(i);
    }

    int letter(int c) {
        if (c < 32 || c > 126) {
            return BAD;
        }
        if (letters.length() == 120) {
            return FULL;
        }
        letters += (char) c;
        return letters.length();
    }

    /** One box of a TREE that is read, with what is in it. */
    static final class Node {
        int kind, share;
        int[] n = new int[4];
        List<Node> in = new ArrayList<>();
    }

    static final class Fault extends Exception {
        private static final long serialVersionUID = 1L;
        final int place;

        Fault(int place) {
            this.place = place;
        }
    }

    private int p, begun;

    private char look() {
        return p < letters.length() ? letters.charAt(p) : '\0';
    }

    private void need(char c) throws Fault {
        if (look() != c) {
            throw new Fault(p);
        }
        p++;
    }

    private Node tree(boolean taken) throws Fault {
        if (!taken || s.came + begun == 24) {
            throw new Fault(p);
        }
        begun++;
        Node t = new Node();
        List<String> like = new ArrayList<>(List.of(NAMES));
        int at = 0;
        for (String whole = null; whole == null; at++) {
            int i = at;
            char c = look();
            like.removeIf(name -> name.length() <= i || name.charAt(i) != c);
            if (like.isEmpty()) {
                throw new Fault(p);
            }
            p++;
            whole = like.get(0).length() == at + 1 ? like.get(0) : null;
        }
        t.kind = List.of(NAMES).indexOf(like.get(0));
        for (int i = 0; i < RANGES[t.kind].length; i++) {
            need(' ');
            int first = p;
            if (!Character.isDigit(look())) {
                throw new Fault(p);
            }
            int v = look() - '0';
            p++;
            if (Character.isDigit(look())) {
                v = 10 * v + look() - '0';
                p++;
            }
            t.n[i] = v;
            if (v < RANGES[t.kind][i][0] || v > RANGES[t.kind][i][1]
                    || (t.kind == 3 && (i == 1 || i == 3) && v < t.n[i - 1])) {
                throw new Fault(first);
            }
        }
        if (look() == '*') {
            p++;
            if (!Character.isDigit(look())) {
                throw new Fault(p);
            }
            t.share = look() - '0';
            p++;
        }
        if (look() == '(') {
            do {
                p++;
                t.in.add(tree(t.in.size() < TAKES[t.kind]));
            } while (look() == ',');
            need(')');
        }
        return t;
    }

    private int grow(Node t, int parent) {
        int no = add(t.kind, parent, t.n, t.share);
        int count = 1;
        for (Node in : t.in) {
            count += grow(in, no);
        }
        return count;
    }

    int reads(int parent) {
        if (parent != -1 && !has(parent)) {
            return NONE;
        }
        if (full(parent)) {
            return STATE;
        }
        p = 0;
        begun = 0;
        try {
            Node t = tree(true);
            if (p < letters.length()) {
                throw new Fault(p);
            }
            letters = "";
            return grow(t, parent);
        } catch (Fault f) {
            letters = "";
            return -100 - f.place;
        }
    }

    int printed(int box, int i) {
        if (!has(box)) {
            return NONE;
        }
        String text = s.print(box);
        return i == -1 ? text.length() : i < 0 || i >= text.length() ? NONE : text.charAt(i);
    }

    int lays() {
        s.layOut();
        latestVisits = s.visits;
        latestSkips = s.skips;
        return latestVisits;
    }

    int at(int box, int what) {
        if (!has(box) || what < 0 || what > 8) {
            return NONE;
        }
        B b = s.boxes.get(box);
        if (b.by == null) {
            return what == 8 ? NO_SUCH : 0;
        }
        int x = 0;
        int y = 0;
        for (int no = box; no != -1; no = s.boxes.get(no).parent) {
            x += s.boxes.get(no).x;
            y += s.boxes.get(no).y;
        }
        Integer base = s.base(b);
        return new int[] {b.x, b.y, x, y, b.w, b.h, b.over, b.rounds, base == null ? NO_SUCH : base}[what];
    }

    int bounds(int box, int what) {
        if (!has(box) || what < 0 || what > 3) {
            return NONE;
        }
        return s.boxes.get(box).by == null ? NO_SUCH : s.boxes.get(box).by[what];
    }

    int asks(int box, int what) {
        return !has(box) || what < 0 || what > 1 ? NONE : s.ask(s.boxes.get(box), what);
    }

    int hit(int x, int y) {
        return s.top() == null ? NO_SUCH : hitIn(s.boxes.get(s.top()), x, y);
    }

    int hitIn(B b, long x, long y) {
        long inX = x - b.x;
        long inY = y - b.y;
        if (inX < 0 || inX >= b.w || inY < 0 || inY >= b.h) {
            return NO_SUCH;
        }
        for (int i = b.kids.size() - 1; i >= 0; i--) {
            int r = hitIn(s.boxes.get(b.kids.get(i)), inX, inY);
            if (r != NO_SUCH) {
                return r;
            }
        }
        return b.no;
    }

    int bits(java.util.function.Predicate<B> which) {
        return s.boxes.values().stream().filter(which).mapToInt(b -> 1 << b.no).sum();
    }

    int told(int what) {
        switch (what) {
            case 0: return s.wide;
            case 1: return s.high;
            case 2: return s.top() == null ? NO_SUCH : s.top();
            case 3: return bits(b -> true);
            case 4: return bits(b -> b.dirty);
            case 5: return bits(b -> s.list.contains(b.no));
            case 6: return bits(b -> b.over > 0);
            case 7: return latestVisits;
            case 8: return latestSkips;
            case 9: return s.came;
            case 10: return letters.length();
            case 11: return s.plan.size();
            case 12: return work;
            case 13: return memos + s.memosMade;
            default: return NONE;
        }
    }

    S think() {
        work += s.boxes.size();
        return s.copy();
    }

    S laid(S c) {
        c.layOut();
        work += c.visits + c.skips;
        return c;
    }

    boolean tired() {
        return work >= 40000;
    }

    int agrees() {
        if (tired()) {
            return FULL;
        }
        S one = laid(think());
        S two = think();
        two.list.clear();
        for (B b : two.boxes.values()) {
            b.dirty = true;
            b.memo.clear();
            if (b.parent == -1) {
                two.list.add(b.no);
            }
        }
        laid(two);
        for (B b : one.boxes.values()) {
            B o = two.boxes.get(b.no);
            if (b.x != o.x || b.y != o.y || b.w != o.w || b.h != o.h || b.over != o.over) {
                return 0;
            }
        }
        return 1;
    }

    S onScreen(int w, int h) {
        S c = think();
        c.screen(w, h);
        return laid(c);
    }

    int narrowest() {
        if (tired()) {
            return FULL;
        }
        for (int w = 0; w <= 200 && s.top() != null; w++) {
            if (onScreen(w, s.high).overSum() == 0) {
                return w;
            }
        }
        return NO_SUCH;
    }

    int tall(int v) {
        if (v < 0 || v > 200) {
            return BAD;
        }
        if (tired()) {
            return FULL;
        }
        return s.top() == null ? NO_SUCH : onScreen(v, 1000).boxes.get(s.top()).h;
    }

    int reached(int box, int what) {
        if (!has(box) || what < 0 || what > 1) {
            return NONE;
        }
        if (tired()) {
            return FULL;
        }
        S c = laid(think());
        c.mark(box);
        laid(c);
        return what == 1 ? c.skips : c.visited.stream().mapToInt(i -> 1 << i).sum();
    }

    S afterTold(int box, int what, int v) {
        S c = think();
        c.tell(box, what, v);
        return laid(c);
    }

    int bestShare(int box, int what) {
        if (!has(box) || what < 0 || what > 1) {
            return NONE;
        }
        if (tired()) {
            return FULL;
        }
        int best = -1;
        int share = 0;
        for (int v = 0; v < 10; v++) {
            int w = afterTold(box, 4, v).boxes.get(box).w;
            if (w > best) {
                best = w;
                share = v;
            }
        }
        return what == 0 ? share : best;
    }

    int fits(int box, int number) {
        if (!has(box) || number < 0 || number >= RANGES[s.boxes.get(box).kind].length) {
            return NONE;
        }
        if (tired()) {
            return FULL;
        }
        int r = 0;
        for (int v = 0; v <= 20; v++) {
            if (mayTell(s.boxes.get(box), number, v) && afterTold(box, number, v).overSum() == 0) {
                r |= 1 << v;
            }
        }
        return r;
    }

    int plan(int box, int v) {
        if (box == -1) {
            s.plan.clear();
            return 0;
        }
        if (!has(box)) {
            return NONE;
        }
        if (v < 0 || v > 9) {
            return BAD;
        }
        if (s.plan.size() == 8) {
            return FULL;
        }
        s.plan.add(new int[] {box, v});
        return s.plan.size();
    }

    int saved() {
        if (tired()) {
            return FULL;
        }
        S each = laid(think());
        S once = laid(think());
        int sum = 0;
        for (int[] row : s.plan) {
            if (has(row[0])) {
                each.tell(row[0], 4, row[1]);
                sum += laid(each).visits;
                once.tell(row[0], 4, row[1]);
            }
        }
        return sum - laid(once).visits;
    }

    static long part(java.math.BigInteger above, java.math.BigInteger below, int part) {
        java.math.BigInteger g = above.gcd(below);
        return (part == 0 ? above : below).divide(g).longValueExact();
    }

    long likely(int t, int part) {
        if (t < 2 || t > 20 || part < 0 || part > 1 || tired()) {
            return NO;
        }
        List<Integer> blocks = new ArrayList<>();
        for (B b : s.boxes.values()) {
            if (b.kind == 0 && blocks.size() < 6) {
                blocks.add(b.no);
            }
        }
        java.math.BigInteger above = java.math.BigInteger.ZERO;
        java.math.BigInteger big = java.math.BigInteger.valueOf(t);
        for (int set = 0; set < 1 << blocks.size(); set++) {
            S c = think();
            int in = 0;
            for (int i = 0; i < blocks.size(); i++) {
                if ((set >> i & 1) == 1) {
                    c.tell(blocks.get(i), 0, 0);
                    c.tell(blocks.get(i), 1, 0);
                    in++;
                }
            }
            if (laid(c).overSum() == 0) {
                above = above.add(java.math.BigInteger.valueOf(t - 1).pow(blocks.size() - in));
            }
        }
        return part(above, big.pow(blocks.size()), part);
    }

    int drawn(int n) {
        if (n < 1 || n > 20) {
            return BAD;
        }
        if (tired()) {
            return FULL;
        }
        int sum = 0;
        for (int i = 0; i < n; i++) {
            s.seed = s.seed * 1103515245 + 12345;
            sum += onScreen((s.seed >>> 16) % 101, s.high).overSum();
        }
        return sum;
    }

    int seed(int v) {
        int was = s.seed;
        s.seed = v;
        return was;
    }

    long mean(int part) {
        if (part < 0 || part > 1 || s.boxes.isEmpty()) {
            return NO;
        }
        return part(java.math.BigInteger.valueOf(s.boxes.values().stream().mapToInt(b -> b.w).sum()),
                java.math.BigInteger.valueOf(s.boxes.size()), part);
    }

    int taken(int box, int k) {
        if (k < 0 || k > 9) {
            return BAD;
        }
        if (!has(box)) {
            return -11;
        }
        int kind = s.boxes.get(box).kind;
        return kind == k || (kind == 9 && k == 8) || (kind == 5 && k == 4) || (kind == 3 && k == 2) ? kind : -12;
    }

    int judge(int tape, int i) {
        if (tape < 0 || tape > 3) {
            return NONE;
        }
        if (tapes[tape] != null && !(tapes[tape] instanceof int[])) {
            return -12;
        }
        int[] row = (int[]) tapes[tape];
        if (row == null || i < 0) {
            return 100;
        }
        long place = i;
        for (B b : s.boxes.values()) {
            if (place >= row.length) {
                return (int) (100 + place - i);
            }
            if (row[(int) place] != b.w) {
                return b.no;
            }
            place++;
        }
        return NO_SUCH;
    }

    int tape(int tape, int sort, int n) {
        if (tape < 0 || tape > 3) {
            return NONE;
        }
        if (sort < -1 || sort > 3 || (sort >= 0 && n > 60)) {
            return BAD;
        }
        if (sort >= 0 && n < 0) {
            return -14;
        }
        tapes[tape] = sort == -1 ? null : sort == 0 ? new byte[n] : sort == 1 ? new short[n]
                : sort == 2 ? new int[n] : new long[n];
        return 1;
    }

    int item(int tape, int i, long v) {
        if (tape < 0 || tape > 3) {
            return NONE;
        }
        Object t = tapes[tape];
        if (t == null) {
            return -11;
        }
        if (i < 0 || i >= java.lang.reflect.Array.getLength(t)) {
            return -13;
        }
        if (t instanceof byte[]) {
            ((byte[]) t)[i] = (byte) v;
        } else if (t instanceof short[]) {
            ((short[]) t)[i] = (short) v;
        } else if (t instanceof int[]) {
            ((int[]) t)[i] = (int) v;
        } else {
            ((long[]) t)[i] = v;
        }
        return 1;
    }

    long peek(int tape, int i) {
        if (tape < 0 || tape > 3 || tapes[tape] == null || i < 0
                || i >= java.lang.reflect.Array.getLength(tapes[tape])) {
            return NO;
        }
        return java.lang.reflect.Array.getLong(tapes[tape], i);
    }

    int shift(int tape, int i, int other, int j, int n) {
        if (tape < 0 || tape > 3 || other < 0 || other > 3) {
            return NONE;
        }
        Object from = tapes[tape];
        Object to = tapes[other];
        if (from == null || to == null) {
            return -11;
        }
        if (from.getClass() != to.getClass()) {
            return -12;
        }
        try {
            System.arraycopy(from, i, to, j, n);
            return n;
        } catch (IndexOutOfBoundsException e) {
            return -13;
        }
    }

    int image() {
        image = s.copy();
        return s.boxes.size();
    }

    int undo() {
        if (image == null) {
            return STATE;
        }
        memos += s.memosMade;
        s = image.copy();
        return s.boxes.size();
    }
}
