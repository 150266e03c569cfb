import java.util.Random;

/** Long random runs, the same on every machine, on LaidOutBoxes and on PlainModel: every answer must be alike. */
public final class ModelTest {
    private static final int RUNS = 3000;
    private static final int[] ODD = {-1, -2, -100, 24, 25, 31, 32, 63, 99, 100, 101, 200, 201, 1000, 1001,
        Integer.MAX_VALUE, Integer.MIN_VALUE, Integer.MAX_VALUE - 3};
    private static final String[] PIECES = {"block 1 2", "block 99 9", "block 0 0", "text 3 4", "text 12 31",
        "text 0 5", "pad 1 2", "limit 1 50 2 99", "limit 5 4 1 1", "centre", "fit", "ratio 3 2", "layers 1", "row 4 1",
        "row 3 2", "row 0 0", "column 3 2", "column 1 0", "(", "(", "(", ")", ")", ",", ",", "*1", "*3", "*0", " ",
        "7", "x", "ro", "4"};

    private final Random random;
    private final LaidOutBoxes real = new LaidOutBoxes();
    private final PlainModel model = new PlainModel();
    private final StringBuilder calls = new StringBuilder();
    private int wrong;

    private ModelTest(long seed) {
        random = new Random(seed);
    }

    public static void main(String[] args) {
        int runs = args.length > 0 ? Integer.parseInt(args[0]) : RUNS;
        long first = args.length > 1 ? Long.parseLong(args[1]) : 1;
        int disagreeing = 0;
        for (int i = 0; i < runs; i++) {
            ModelTest run = new ModelTest(first + i);
            run.play(100 + run.random.nextInt(400));
            if (run.wrong > 0) {
                System.out.println("run with seed " + (first + i) + " goes wrong");
                if (disagreeing++ > 3) {
                    break;
                }
            }
        }
        System.out.println(runs + " runs held against the model");
        if (disagreeing > 0) {
            System.exit(1);
        }
    }

    private void same(String call, long got, long due) {
        calls.append(call).append(" = ").append(got).append('\n');
        if (got != due) {
            wrong++;
            System.out.println(call + " answered " + got + ", the model says " + due);
            if (wrong == 1 && System.getenv("SHOW_RUN") != null) {
                System.out.println(calls);
            }
        }
    }

    private int below(int n) {
        return random.nextInt(n);
    }

    private int odd() {
        return ODD[below(ODD.length)];
    }

    /** Mostly 0 .. most, now and then something that no call expects. */
    private int upTo(int most) {
        return below(40) == 0 ? odd() : below(most + 1);
    }

    private int box() {
        if (below(50) == 0) {
            return odd();
        }
        int there = model.told(3);
        if (there != 0 && below(12) > 0) {
            int skip = below(Integer.bitCount(there));
            for (int i = 0; i < skip; i++) {
                there &= there - 1;
            }
            return Integer.numberOfTrailingZeros(there);
        }
        return below(24);
    }

    private int boxOrTop() {
        return below(6) == 0 ? -1 : box();
    }

    private int numberOf(int kind, int i) {
        if (kind < 0 || kind > 9 || i >= PlainModel.RANGES[kind].length) {
            return upTo(99);
        }
        int[] range = PlainModel.RANGES[kind][i];
        if (below(40) == 0) {
            return below(2) == 0 ? range[0] - 1 : range[1] + 1;
        }
        return range[0] + below(range[1] - range[0] + 1);
    }

    private void play(int length) {
        int manner = below(4);
        if (below(3) > 0) {
            build();
        }
        for (int i = 0; i < length && wrong == 0; i++) {
            step(manner);
            if (below(12) == 0 || i == length - 1) {
                compareAll();
            }
        }
    }

    private void build() {
        int count = 2 + below(22);
        for (int i = 0; i < count; i++) {
            comeOnce();
        }
        lays();
    }

    private void comeOnce() {
        int kind = below(30) == 0 ? odd() : below(10);
        if (below(3) == 0) {
            kind = 7 + below(3);
        }
        int[] n = new int[4];
        for (int k = 0; k < 4; k++) {
            n[k] = numberOf(kind, k);
        }
        if (kind == 3 && below(12) > 0) {
            n[1] = Math.max(n[0], n[1]);
            n[3] = Math.max(n[2], n[3]);
        }
        int parent = model.told(2) == -5 ? -1 : boxOrTop();
        same("comes(" + kind + ", " + parent + ", " + n[0] + ", " + n[1] + ", " + n[2] + ", " + n[3] + ")",
                real.comes(kind, parent, n[0], n[1], n[2], n[3]), model.comes(kind, parent, n[0], n[1], n[2], n[3]));
    }

    private void lays() {
        same("lays()", real.lays(), model.lays());
    }

    private void step(int manner) {
        int r = below(100);
        if (r < 10) {
            comeOnce();
        } else if (r < 34) {
            tellOnce();
        } else if (r < 36) {
            int b = manner < 3 && below(4) > 0 ? odd() : box();
            same("drops(" + b + ")", real.drops(b), model.drops(b));
        } else if (r < 40) {
            int b = box();
            int i = upTo(3);
            same("moves(" + b + ", " + i + ")", real.moves(b, i), model.moves(b, i));
        } else if (r < 43) {
            int w = upTo(200);
            int h = below(4) == 0 ? 1000 : upTo(200);
            same("screen(" + w + ", " + h + ")", real.screen(w, h), model.screen(w, h));
        } else if (r < 58) {
            lays();
        } else if (r < 64) {
            readOnce();
        } else if (r < 68) {
            int b = box();
            int what = upTo(1);
            same("asks(" + b + ", " + what + ")", real.asks(b, what), model.asks(b, what));
        } else if (r < 72) {
            int x = upTo(120);
            int y = upTo(60);
            same("hit(" + x + ", " + y + ")", real.hit(x, y), model.hit(x, y));
        } else if (r < 86) {
            think();
        } else if (r < 90) {
            imageOrUndo();
        } else {
            tapesOnce();
        }
    }

    private void tellOnce() {
        int b = box();
        int kind = model.of(b, 0);
        int numbers = kind < 0 ? 4 : PlainModel.RANGES[kind].length;
        int what = below(10) == 0 ? upTo(7) : below(2) == 0 || numbers == 0 ? 4 + below(3) : below(numbers);
        int v = what >= 0 && what < 4 ? numberOf(kind, what) : what == 4 ? upTo(9) : upTo(99);
        if (what == 5 && below(3) > 0) {
            v = below(30);
        }
        if (what == 4 && below(3) == 0) {
            v = 0;
        }
        same("tells(" + b + ", " + what + ", " + v + ")", real.tells(b, what, v), model.tells(b, what, v));
    }

    private void readOnce() {
        StringBuilder text = new StringBuilder();
        if (below(3) == 0) {
            int count = 1 + below(12);
            for (int i = 0; i < count; i++) {
                text.append(PIECES[below(PIECES.length)]);
            }
        } else {
            writeTree(text, 0);
        }
        if (below(8) == 0 && text.length() > 0) {
            text.setCharAt(below(text.length()), "0123456789 *(),abcxrow".charAt(below(22)));
        }
        if (below(10) == 0) {
            text.setLength(below(text.length() + 1));
        }
        for (int i = 0; i < text.length(); i++) {
            same("letter(" + (int) text.charAt(i) + ")", real.letter(text.charAt(i)), model.letter(text.charAt(i)));
        }
        if (below(20) == 0) {
            int c = odd();
            same("letter(" + c + ")", real.letter(c), model.letter(c));
        }
        int parent = model.told(2) == -5 && below(8) > 0 ? -1 : boxOrTop();
        same("reads(" + parent + ")", real.reads(parent), model.reads(parent));
    }

    private void writeTree(StringBuilder text, int depth) {
        int kind = below(10);
        text.append(PlainModel.NAMES[kind]);
        int before = 0;
        for (int i = 0; i < PlainModel.RANGES[kind].length; i++) {
            int v = Math.max(0, numberOf(kind, i));
            if (kind == 3 && i % 2 == 1 && below(15) > 0) {
                v = Math.max(v, before);
            }
            before = v;
            text.append(' ').append(v);
        }
        if (below(3) == 0) {
            text.append('*').append(below(10));
        }
        int kids = depth > 3 ? 0 : Math.min(PlainModel.TAKES[kind] + (below(20) == 0 ? 1 : 0), below(4));
        for (int i = 0; i < kids; i++) {
            text.append(i == 0 ? '(' : ',');
            writeTree(text, depth + 1);
        }
        if (kids > 0) {
            text.append(')');
        }
    }

    private void think() {
        int b = box();
        int n = below(20) == 0 ? upTo(3) : below(2);
        switch (below(12)) {
            case 0: case 1: case 2:
                same("agrees()", real.agrees(), model.agrees());
                break;
            case 3:
                same("narrowest()", real.narrowest(), model.narrowest());
                break;
            case 4: {
                int v = upTo(200);
                same("tall(" + v + ")", real.tall(v), model.tall(v));
                break;
            }
            case 5:
                same("reached(" + b + ", " + n + ")", real.reached(b, n), model.reached(b, n));
                break;
            case 6:
                same("bestShare(" + b + ", " + n + ")", real.bestShare(b, n), model.bestShare(b, n));
                break;
            case 7:
                same("fits(" + b + ", " + n + ")", real.fits(b, n), model.fits(b, n));
                break;
            case 8: {
                int v = upTo(9);
                int row = boxOrTop();
                row = row == -1 && below(4) > 0 ? 0 : row;
                same("plan(" + row + ", " + v + ")", real.plan(row, v), model.plan(row, v));
                break;
            }
            case 9:
                same("saved()", real.saved(), model.saved());
                break;
            case 10: {
                int t = upTo(20);
                same("likely(" + t + ", " + n + ")", real.likely(t, n), model.likely(t, n));
                break;
            }
            default: {
                int times = upTo(20);
                same("drawn(" + times + ")", real.drawn(times), model.drawn(times));
            }
        }
    }

    private void imageOrUndo() {
        switch (below(4)) {
            case 0:
                same("image()", real.image(), model.image());
                break;
            case 1:
                same("undo()", real.undo(), model.undo());
                break;
            case 2: {
                int v = random.nextInt();
                same("seed(" + v + ")", real.seed(v), model.seed(v));
                break;
            }
            default: {
                int part = below(20) == 0 ? odd() : below(2);
                same("mean(" + part + ")", real.mean(part), model.mean(part));
            }
        }
    }

    private void tapesOnce() {
        int tape = below(30) == 0 ? odd() : below(4);
        int i = below(20) == 0 ? odd() : below(12);
        switch (below(6)) {
            case 0: {
                int sort = below(20) == 0 ? odd() : below(3) == 0 ? 2 : below(5) - 1;
                int n = below(10) == 0 ? odd() : below(14) == 0 ? 60 : below(30);
                same("tape(" + tape + ", " + sort + ", " + n + ")", real.tape(tape, sort, n), model.tape(tape, sort, n));
                break;
            }
            case 1: {
                long v = below(2) == 0 ? random.nextLong() : below(300) - 150;
                same("item(" + tape + ", " + i + ", " + v + ")", real.item(tape, i, v), model.item(tape, i, v));
                break;
            }
            case 2: {
                int other = below(30) == 0 ? odd() : below(4);
                int j = below(20) == 0 ? odd() : below(12);
                int n = below(20) == 0 ? odd() : below(9);
                same("shift(" + tape + ", " + i + ", " + other + ", " + j + ", " + n + ")",
                        real.shift(tape, i, other, j, n), model.shift(tape, i, other, j, n));
                break;
            }
            case 3:
                tellWides(tape);
                break;
            case 4:
                same("judge(" + tape + ", " + i + ")", real.judge(tape, i), model.judge(tape, i));
                break;
            default:
                same("peek(" + tape + ", " + i + ")", real.peek(tape, i), model.peek(tape, i));
        }
    }

    /** A row that is right but for a place now and then, so that judge() goes far along it. */
    private void tellWides(int tape) {
        int length = 20 + below(10);
        same("tape(" + tape + ", 2, " + length + ")", real.tape(tape, 2, length), model.tape(tape, 2, length));
        int from = below(4);
        int place = from;
        for (int b = 0; b < 24; b++) {
            if (model.of(b, 0) >= 0) {
                int w = model.at(b, 4) + (below(40) == 0 ? 1 : 0);
                same("item(" + tape + ", " + place + ", " + w + ")", real.item(tape, place, w),
                        model.item(tape, place, w));
                place++;
            }
        }
        same("judge(" + tape + ", " + from + ")", real.judge(tape, from), model.judge(tape, from));
    }

    private void compareAll() {
        for (int b = -1; b <= 24; b++) {
            for (int what = -1; what <= 15; what++) {
                same("of(" + b + ", " + what + ")", real.of(b, what), model.of(b, what));
                same("at(" + b + ", " + what + ")", real.at(b, what), model.at(b, what));
            }
            for (int i = -1; i <= 8; i++) {
                same("bounds(" + b + ", " + i + ")", real.bounds(b, i), model.bounds(b, i));
                same("child(" + b + ", " + i + ")", real.child(b, i), model.child(b, i));
            }
            same("taken(" + b + ", 8)", real.taken(b, 8), model.taken(b, 8));
            int k = upTo(9);
            same("taken(" + b + ", " + k + ")", real.taken(b, k), model.taken(b, k));
        }
        for (int what = -1; what <= 14; what++) {
            same("told(" + what + ")", real.told(what), model.told(what));
        }
        int b = box();
        int length = model.printed(b, -1);
        for (int i = -2; i <= length; i++) {
            same("printed(" + b + ", " + i + ")", real.printed(b, i), model.printed(b, i));
        }
    }
}
