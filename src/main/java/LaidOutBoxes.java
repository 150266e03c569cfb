import java.util.Arrays;

/** Layout of boxes in one pass. README.md tells how to use it; each call keeps a numbered promise of the document. */
public final class LaidOutBoxes {
    public static final int NONE = -1, BAD = -2, STATE = -3, FULL = -4, NO_SUCH = -5;
    public static final long NO = Long.MIN_VALUE;

    private static final int NOTHING = -11, CAST = -12, PLACE = -13, SIZE = -14;
    private static final int BLOCK = 0, TEXT = 1, PAD = 2, LIMIT = 3, CENTRE = 4, FIT = 5, RATIO = 6, LAYERS = 7,
            ROW = 8, COLUMN = 9, KINDS = 10;
    private static final int MOST_BOXES = 24, MOST_CHILDREN = 8, MOST_NUMBERS = 4, MOST_LETTERS = 120, MOST_ROWS = 8;
    private static final int TAPES = 4, MOST_ITEMS = 60;
    private static final int END_TOLD = 99, NO_END = 1000, MOST_SCREEN = 200;
    private static final int MOST_WORK = 40000, FAULTY = -100, UNJUDGED = 100;
    private static final int GREATEST = 0, NARROW = 1;

    private final World world = new World();
    private final World image = new World();
    private final Layout layout = new Layout(world);
    private final Thought thought = new Thought(world);
    private final Reader reader = new Reader();
    private final Printer printer = new Printer(world);
    private final char[] letters = new char[MOST_LETTERS];
    private final Tape[] tapes = new Tape[TAPES];
    private int letterCount;
    private int latestVisits;
    private int latestSkips;
    private boolean imageTaken;

    public LaidOutBoxes() {
        for (int i = 0; i < TAPES; i++) {
            tapes[i] = new Tape();
        }
    }

    // ---- boxes

    public int comes(int kind, int parent, int a, int b, int c, int d) {
        if (!mayHoldChildren(parent)) {
            return NONE;
        }
        if (!Kinds.mayHave(kind, a, b, c, d)) {
            return BAD;
        }
        if (!world.takesOneMore(parent)) {
            return STATE;
        }
        if (world.came >= MOST_BOXES) {
            return FULL;
        }
        return world.bring(kind, parent, a, b, c, d, 0);
    }

    public int tells(int box, int what, int v) {
        if (!world.has(box) || !world.boxes[box].hasTold(what)) {
            return NONE;
        }
        if (!world.boxes[box].mayBeTold(what, v)) {
            return BAD;
        }
        return world.tell(box, what, v);
    }

    public int drops(int box) {
        return world.has(box) ? world.drop(box) : NONE;
    }

    public int moves(int box, int i) {
        if (!world.has(box) || !world.has(world.boxes[box].parent)) {
            return NONE;
        }
        if (i < 0 || i >= world.boxes[world.boxes[box].parent].kidCount) {
            return BAD;
        }
        return world.move(box, i);
    }

    public int screen(int wide, int high) {
        if (wide < 0 || wide > MOST_SCREEN || high < 0 || (high > MOST_SCREEN && high != NO_END)) {
            return BAD;
        }
        int was = 1000 * world.screenWide + world.screenHigh;
        world.tellScreen(wide, high);
        return was;
    }

    public int of(int box, int what) {
        if (!world.has(box)) {
            return NONE;
        }
        Box it = world.boxes[box];
        switch (what) {
            case 0: return it.kind;
            case 1: return it.parent;
            case 2: return it.kidCount;
            case 3: case 4: case 5: case 6: return it.numbers[what - 3];
            case 7: return it.share;
            case 8: return it.least;
            case 9: return it.most;
            case 10: return bitOf(world.dirty, box);
            case 11: return bitOf(world.listed, box);
            case 12: return it.memos;
            case 13: return bitOf(world.based, box);
            case 14: return it.depth;
            default: return NONE;
        }
    }

    public int child(int box, int i) {
        if (!world.has(box) || i < 0 || i >= world.boxes[box].kidCount) {
            return NONE;
        }
        return world.boxes[box].kids[i];
    }

    public int letter(int c) {
        if (c < 32 || c > 126) {
            return BAD;
        }
        if (letterCount >= MOST_LETTERS) {
            return FULL;
        }
        letters[letterCount] = (char) c;
        letterCount++;
        return letterCount;
    }

    public int reads(int parent) {
        if (!mayHoldChildren(parent)) {
            return NONE;
        }
        if (!world.takesOneMore(parent)) {
            return STATE;
        }
        int fault = reader.faultOf(letters, letterCount, MOST_BOXES - world.came);
        letterCount = 0;
        if (fault != NONE) {
            return FAULTY - fault;
        }
        int first = world.came;
        for (int i = 0; i < reader.count; i++) {
            int holder = i == 0 ? parent : first + reader.parents[i];
            int[] numbers = reader.numbers[i];
            world.bring(reader.kinds[i], holder, numbers[0], numbers[1], numbers[2], numbers[3], reader.shares[i]);
        }
        return reader.count;
    }

    public int printed(int box, int i) {
        if (!world.has(box) || i < -1) {
            return NONE;
        }
        printer.print(box);
        if (i == -1) {
            return printer.length;
        }
        return i < printer.length ? printer.text[i] : NONE;
    }

    // ---- laid

    public int lays() {
        layout.layOut();
        latestVisits = layout.visits;
        latestSkips = layout.skips;
        return latestVisits;
    }

    public int at(int box, int what) {
        if (!world.has(box)) {
            return NONE;
        }
        Laid laid = world.boxes[box].laid;
        switch (what) {
            case 0: return laid.x;
            case 1: return laid.y;
            case 2: return laid.ever ? world.leftInTop(box) : 0;
            case 3: return laid.ever ? world.upperInTop(box) : 0;
            case 4: return laid.wide;
            case 5: return laid.high;
            case 6: return laid.over;
            case 7: return laid.rounds;
            case 8: return layout.baseAsLaid(world.boxes[box]);
            default: return NONE;
        }
    }

    public int bounds(int box, int what) {
        if (!world.has(box) || what < 0 || what > 3) {
            return NONE;
        }
        Laid laid = world.boxes[box].laid;
        if (!laid.ever) {
            return NO_SUCH;
        }
        switch (what) {
            case 0: return laid.leastWide;
            case 1: return laid.mostWide;
            case 2: return laid.leastHigh;
            default: return laid.mostHigh;
        }
    }

    public int asks(int box, int what) {
        if (!world.has(box) || (what != GREATEST && what != NARROW)) {
            return NONE;
        }
        return layout.ask(world.boxes[box], what);
    }

    public int hit(int x, int y) {
        return world.whoIsAtPoint(x, y);
    }

    public int told(int what) {
        switch (what) {
            case 0: return world.screenWide;
            case 1: return world.screenHigh;
            case 2: return world.has(world.top) ? world.top : NO_SUCH;
            case 3: return world.there;
            case 4: return world.dirty;
            case 5: return world.listed;
            case 6: return world.overBits();
            case 7: return latestVisits;
            case 8: return latestSkips;
            case 9: return world.came;
            case 10: return letterCount;
            case 11: return world.planRows;
            case 12: return thought.workDone();
            case 13: return layout.memosMade;
            default: return NONE;
        }
    }

    // ---- in thought

    public int agrees() {
        return thought.isTired() ? FULL : thought.agreesAnew();
    }

    public int narrowest() {
        return thought.isTired() ? FULL : thought.narrowestScreen();
    }

    public int tall(int v) {
        if (v < 0 || v > MOST_SCREEN) {
            return BAD;
        }
        return thought.isTired() ? FULL : thought.highOfTop(v);
    }

    public int reached(int box, int what) {
        if (!world.has(box) || (what != 0 && what != 1)) {
            return NONE;
        }
        return thought.isTired() ? FULL : thought.reachedFrom(box, what);
    }

    public int bestShare(int box, int what) {
        if (!world.has(box) || (what != 0 && what != 1)) {
            return NONE;
        }
        return thought.isTired() ? FULL : thought.widestShare(box, what);
    }

    public int fits(int box, int number) {
        if (!world.has(box) || number >= MOST_NUMBERS || !world.boxes[box].hasTold(number)) {
            return NONE;
        }
        return thought.isTired() ? FULL : thought.fittingNumbers(box, number);
    }

    public int plan(int box, int v) {
        if (box == -1) {
            world.planRows = 0;
            return 0;
        }
        if (!world.has(box)) {
            return NONE;
        }
        if (v < 0 || v > 9) {
            return BAD;
        }
        if (world.planRows >= MOST_ROWS) {
            return FULL;
        }
        return world.addPlanRow(box, v);
    }

    public int saved() {
        return thought.isTired() ? FULL : thought.visitsSaved();
    }

    public long likely(int t, int part) {
        if (t < 2 || t > 20 || (part != 0 && part != 1) || thought.isTired()) {
            return NO;
        }
        int blocks = thought.gatherBlocks();
        return partOfFraction(thought.waysWithoutOver(blocks, t), power(t, blocks), part);
    }

    public int drawn(int n) {
        if (n < 1 || n > 20) {
            return BAD;
        }
        return thought.isTired() ? FULL : thought.overOfDraws(n);
    }

    public int seed(int v) {
        int was = world.seed;
        world.seed = v;
        return was;
    }

    public long mean(int part) {
        if ((part != 0 && part != 1) || world.there == 0) {
            return NO;
        }
        long together = 0;
        for (int i = 0; i < world.came; i++) {
            if (world.has(i)) {
                together += world.boxes[i].laid.wide;
            }
        }
        return partOfFraction(together, world.countBoxes(), part);
    }

    public int taken(int box, int k) {
        if (!Kinds.isKind(k)) {
            return BAD;
        }
        if (!world.has(box)) {
            return NOTHING;
        }
        int kind = world.boxes[box].kind;
        return Kinds.passesFor(kind, k) ? kind : CAST;
    }

    // ---- tapes, the image

    public int judge(int tape, int i) {
        if (!isTape(tape)) {
            return NONE;
        }
        Tape row = tapes[tape];
        if (row.sort == Tape.EMPTY) {
            return UNJUDGED;
        }
        if (row.sort != Tape.INTS) {
            return CAST;
        }
        return i < 0 ? UNJUDGED : firstOtherwise(row, i);
    }

    public int tape(int tape, int sort, int n) {
        if (!isTape(tape)) {
            return NONE;
        }
        if (sort == Tape.EMPTY) {
            tapes[tape].clearTo(sort, 0);
            return 1;
        }
        if (sort < Tape.BYTES || sort > Tape.LONGS || n > MOST_ITEMS) {
            return BAD;
        }
        if (n < 0) {
            return SIZE;
        }
        tapes[tape].clearTo(sort, n);
        return 1;
    }

    public int item(int tape, int i, long v) {
        if (!isTape(tape)) {
            return NONE;
        }
        Tape row = tapes[tape];
        if (row.sort == Tape.EMPTY) {
            return NOTHING;
        }
        if (!row.hasPlace(i)) {
            return PLACE;
        }
        row.items[i] = row.cutToSort(v);
        return 1;
    }

    public long peek(int tape, int i) {
        return isTape(tape) && tapes[tape].hasPlace(i) ? tapes[tape].items[i] : NO;
    }

    public int shift(int tape, int i, int other, int j, int n) {
        if (!isTape(tape) || !isTape(other)) {
            return NONE;
        }
        Tape from = tapes[tape];
        Tape to = tapes[other];
        if (from.sort == Tape.EMPTY || to.sort == Tape.EMPTY) {
            return NOTHING;
        }
        if (from.sort != to.sort) {
            return CAST;
        }
        if (!from.hasRun(i, n) || !to.hasRun(j, n)) {
            return PLACE;
        }
        System.arraycopy(from.items, i, to.items, j, n);
        return n;
    }

    public int image() {
        image.copyFrom(world);
        imageTaken = true;
        return world.countBoxes();
    }

    public int undo() {
        if (!imageTaken) {
            return STATE;
        }
        world.copyFrom(image);
        return world.countBoxes();
    }

    // ---- helpers of the face

    private boolean mayHoldChildren(int parent) {
        return parent == -1 || world.has(parent);
    }

    private static boolean isTape(int tape) {
        return tape >= 0 && tape < TAPES;
    }

    private static int bitOf(int bits, int number) {
        return (bits >>> number) & 1;
    }

    private int firstOtherwise(Tape row, int from) {
        int looked = 0;
        for (int box = 0; box < world.came; box++) {
            if (!world.has(box)) {
                continue;
            }
            if (from >= row.length - looked) {
                return UNJUDGED + looked;
            }
            if (row.items[from + looked] != world.boxes[box].laid.wide) {
                return box;
            }
            looked++;
        }
        return NO_SUCH;
    }

    private static int held(int v, int least, int most) {
        if (v < least) {
            return least;
        }
        return v > most ? most : v;
    }

    private static int timesBy(int v, int times, int by) {
        return by == 0 ? 0 : v * times / by;
    }

    private static long power(long base, int times) {
        long product = 1;
        for (int i = 0; i < times; i++) {
            product *= base;
        }
        return product;
    }

    private static long partOfFraction(long above, long below, int part) {
        long divisor = commonDivisor(above, below);
        if (divisor == 0) {
            return NO;
        }
        return (part == 0 ? above : below) / divisor;
    }

    private static long commonDivisor(long one, long two) {
        long a = one;
        long b = two;
        for (int step = 0; step < 100 && b != 0; step++) {
            long rest = a % b;
            a = b;
            b = rest;
        }
        return a;
    }

    /** What each KIND has and may have. */
    private static final class Kinds {
        private static final int[] NUMBERS = {2, 2, 2, 4, 0, 0, 2, 1, 2, 2};
        private static final int[] CHILDREN = {0, 0, 1, 1, 1, 1, 1, 8, 8, 8};
        private static final int[] LOWEST = {0, 0, 0, 0, 0, 0, 1, 0, 0, 0};
        private static final int[] HIGHEST_A = {99, 12, 20, 99, 0, 0, 9, 2, 4, 4};
        private static final int[] HIGHEST_B = {99, 31, 20, 99, 0, 0, 9, 0, 20, 20};

        static boolean isKind(int kind) {
            return kind >= 0 && kind < KINDS;
        }

        static int numbersOf(int kind) {
            return isKind(kind) ? NUMBERS[kind] : 0;
        }

        static int childrenOf(int kind) {
            return isKind(kind) ? CHILDREN[kind] : 0;
        }

        static boolean isInRange(int kind, int i, int v) {
            if (i < 0 || i >= numbersOf(kind)) {
                return false;
            }
            int highest = i % 2 == 0 ? HIGHEST_A[kind] : HIGHEST_B[kind];
            return v >= LOWEST[kind] && v <= highest;
        }

        static boolean mayHave(int kind, int a, int b, int c, int d) {
            if (!isKind(kind)) {
                return false;
            }
            int has = NUMBERS[kind];
            if ((has > 0 && !isInRange(kind, 0, a)) || (has > 1 && !isInRange(kind, 1, b))
                    || (has > 2 && !isInRange(kind, 2, c)) || (has > 3 && !isInRange(kind, 3, d))) {
                return false;
            }
            return kind != LIMIT || (a <= b && c <= d);
        }

        static boolean passesFor(int kind, int other) {
            return kind == other || (kind == COLUMN && other == ROW) || (kind == FIT && other == CENTRE)
                    || (kind == LIMIT && other == PAD);
        }

        static String nameOf(int kind) {
            switch (kind) {
                case BLOCK: return "block";
                case TEXT: return "text";
                case PAD: return "pad";
                case LIMIT: return "limit";
                case CENTRE: return "centre";
                case FIT: return "fit";
                case RATIO: return "ratio";
                case LAYERS: return "layers";
                case ROW: return "row";
                default: return "column";
            }
        }
    }

    /** What came of a BOX as it was LAID last; its place is set by its PARENT. */
    private static final class Laid {
        boolean ever;
        int leastWide;
        int mostWide;
        int leastHigh;
        int mostHigh;
        int x;
        int y;
        int wide;
        int high;
        int over;
        int rounds;
        /** Of a TEXT that had words, of a ROW that stood on its BASE; others find theirs in their CHILDREN. */
        int ownBase = NO_SUCH;

        void forget() {
            begin(0, 0, 0, 0);
            ever = false;
            placeAt(0, 0);
            wide = 0;
            high = 0;
        }

        void begin(int newLeastWide, int newMostWide, int newLeastHigh, int newMostHigh) {
            ever = true;
            leastWide = newLeastWide;
            mostWide = newMostWide;
            leastHigh = newLeastHigh;
            mostHigh = newMostHigh;
            over = 0;
            rounds = 0;
            ownBase = NO_SUCH;
        }

        boolean wasLaidBy(int lowWide, int topWide, int lowHigh, int topHigh) {
            return ever && leastWide == lowWide && mostWide == topWide && leastHigh == lowHigh && mostHigh == topHigh;
        }

        boolean wasJust() {
            return ever && leastWide == mostWide && leastHigh == mostHigh;
        }

        void sizeTo(int newWide, int newHigh) {
            wide = held(newWide, leastWide, mostWide);
            high = held(newHigh, leastHigh, mostHigh);
        }

        void placeAt(int newX, int newY) {
            x = newX;
            y = newY;
        }

        boolean isLike(Laid other) {
            return x == other.x && y == other.y && wide == other.wide && high == other.high && over == other.over;
        }

        void copyFrom(Laid other) {
            ever = other.ever;
            leastWide = other.leastWide;
            mostWide = other.mostWide;
            leastHigh = other.leastHigh;
            mostHigh = other.mostHigh;
            x = other.x;
            y = other.y;
            wide = other.wide;
            high = other.high;
            over = other.over;
            rounds = other.rounds;
            ownBase = other.ownBase;
        }
    }

    /** A BOX: what was told of it, who is in it, what is kept of what it was ASKED. */
    private static final class Box {
        final int number;
        final int[] numbers = new int[MOST_NUMBERS];
        final int[] kids = new int[MOST_CHILDREN];
        final Laid laid = new Laid();
        int kind;
        int parent;
        int depth;
        int share;
        int least;
        int most;
        int kidCount;
        int memos;
        int greatest;
        int narrow;
        /** What its PARENT's ROUNDS give it, or its ABOVE; both are of no meaning once the PARENT is LAID. */
        int given;
        boolean frozen;

        Box(int itsNumber) {
            number = itsNumber;
        }

        void begin(int itsKind, int itsParent, int itsDepth, int itsShare) {
            kind = itsKind;
            parent = itsParent;
            depth = itsDepth;
            share = itsShare;
            least = 0;
            most = END_TOLD;
            kidCount = 0;
            memos = 0;
            laid.forget();
        }

        void setNumbers(int a, int b, int c, int d) {
            int has = Kinds.numbersOf(kind);
            numbers[0] = has > 0 ? a : 0;
            numbers[1] = has > 1 ? b : 0;
            numbers[2] = has > 2 ? c : 0;
            numbers[3] = has > 3 ? d : 0;
        }

        boolean hasTold(int what) {
            return what >= 0 && (what < Kinds.numbersOf(kind) || (what >= 4 && what <= 6));
        }

        boolean mayBeTold(int what, int v) {
            switch (what) {
                case 4: return v >= 0 && v <= 9;
                case 5: return v >= 0 && v <= most;
                case 6: return v >= least && v <= END_TOLD;
                default: return Kinds.isInRange(kind, what, v) && keepsOrder(what, v);
            }
        }

        private boolean keepsOrder(int what, int v) {
            if (kind != LIMIT) {
                return true;
            }
            return what % 2 == 0 ? v <= numbers[what + 1] : v >= numbers[what - 1];
        }

        static int orNoEnd(int v) {
            return v == END_TOLD ? NO_END : v;
        }

        boolean hasMemo(int what) {
            return ((memos >>> what) & 1) == 1;
        }

        int memoOf(int what) {
            return what == GREATEST ? greatest : narrow;
        }

        void keepMemo(int what, int v) {
            memos |= 1 << what;
            if (what == GREATEST) {
                greatest = v;
            } else {
                narrow = v;
            }
        }

        int placeOfKid(int kid) {
            for (int i = 0; i < kidCount; i++) {
                if (kids[i] == kid) {
                    return i;
                }
            }
            return NONE;
        }

        void addKid(int kid, int place) {
            if (kidCount >= MOST_CHILDREN || place < 0 || place > kidCount) {
                return;
            }
            System.arraycopy(kids, place, kids, place + 1, kidCount - place);
            kids[place] = kid;
            kidCount++;
        }

        void removeKid(int place) {
            if (place < 0 || place >= kidCount) {
                return;
            }
            System.arraycopy(kids, place + 1, kids, place, kidCount - place - 1);
            kidCount--;
        }

        void copyFrom(Box other) {
            kind = other.kind;
            parent = other.parent;
            depth = other.depth;
            share = other.share;
            System.arraycopy(other.numbers, 0, numbers, 0, MOST_NUMBERS);
            System.arraycopy(other.kids, 0, kids, 0, other.kidCount);
            least = other.least;
            most = other.most;
            kidCount = other.kidCount;
            memos = other.memos;
            greatest = other.greatest;
            narrow = other.narrow;
            laid.copyFrom(other.laid);
        }
    }

    /** All that THE IMAGE keeps and that a copy in thought begins with. */
    private static final class World {
        final Box[] boxes = new Box[MOST_BOXES];
        final int[] planBoxes = new int[MOST_ROWS];
        final int[] planShares = new int[MOST_ROWS];
        int planRows;
        int there;
        int dirty;
        int listed;
        int based;
        int came;
        int top = NONE;
        int screenWide = 100;
        int screenHigh = 100;
        int seed = 1;

        World() {
            for (int i = 0; i < MOST_BOXES; i++) {
                boxes[i] = new Box(i);
            }
        }

        boolean has(int number) {
            return number >= 0 && number < MOST_BOXES && ((there >>> number) & 1) == 1;
        }

        boolean isDirty(int number) {
            return ((dirty >>> number) & 1) == 1;
        }

        int countBoxes() {
            return Integer.bitCount(there);
        }

        Box kidOf(Box box, int i) {
            return boxes[box.kids[i]];
        }

        boolean takesOneMore(int parent) {
            if (!has(parent)) {
                return !has(top);
            }
            return boxes[parent].kidCount < Kinds.childrenOf(boxes[parent].kind);
        }

        int bring(int kind, int parent, int a, int b, int c, int d, int share) {
            if (came >= MOST_BOXES) {
                return FULL;
            }
            int number = came;
            came++;
            there |= 1 << number;
            dirty |= 1 << number;
            Box box = boxes[number];
            box.begin(kind, parent, has(parent) ? boxes[parent].depth + 1 : 0, share);
            box.setNumbers(a, b, c, d);
            if (has(parent)) {
                boxes[parent].addKid(number, boxes[parent].kidCount);
                mark(parent);
            } else {
                top = number;
                mark(number);
            }
            return number;
        }

        int tell(int number, int what, int v) {
            Box box = boxes[number];
            int was;
            switch (what) {
                case 4:
                    was = box.share;
                    box.share = v;
                    break;
                case 5:
                    was = box.least;
                    box.least = v;
                    break;
                case 6:
                    was = box.most;
                    box.most = v;
                    break;
                default:
                    was = box.numbers[what];
                    box.numbers[what] = v;
            }
            mark(what < MOST_NUMBERS ? number : box.parent);
            return was;
        }

        int drop(int number) {
            int before = countBoxes();
            Box box = boxes[number];
            forget(box, 0);
            if (has(box.parent)) {
                boxes[box.parent].removeKid(boxes[box.parent].placeOfKid(number));
                mark(box.parent);
            } else {
                top = NONE;
            }
            return before - countBoxes();
        }

        private void forget(Box box, int depth) {
            if (depth >= MOST_BOXES) {
                return;
            }
            int others = ~(1 << box.number);
            there &= others;
            dirty &= others;
            listed &= others;
            based &= others;
            for (int i = 0; i < box.kidCount; i++) {
                forget(kidOf(box, i), depth + 1);
            }
        }

        int move(int number, int place) {
            Box parent = boxes[boxes[number].parent];
            int was = parent.placeOfKid(number);
            // the document marks who has CHILDREN "in another order": the same place is no other order
            if (was != place) {
                parent.removeKid(was);
                parent.addKid(number, place);
                mark(parent.number);
            }
            return was;
        }

        void tellScreen(int wide, int high) {
            screenWide = wide;
            screenHigh = high;
            if (has(top)) {
                dirty |= 1 << top;
                listed |= 1 << top;
            }
        }

        void mark(int from) {
            int number = from;
            for (int step = 0; step < MOST_BOXES && has(number); step++) {
                Box box = boxes[number];
                int bit = 1 << number;
                boolean ends = number == top || (box.laid.wasJust() && box.memos == 0 && (based & bit) == 0);
                dirty |= bit;
                box.memos = 0;
                if (ends) {
                    listed |= bit;
                    return;
                }
                number = box.parent;
            }
        }

        void markAllAnew() {
            dirty = there;
            listed = has(top) ? 1 << top : 0;
            for (int i = 0; i < came; i++) {
                boxes[i].memos = 0;
            }
        }

        int addPlanRow(int box, int share) {
            if (planRows < MOST_ROWS) {
                planBoxes[planRows] = box;
                planShares[planRows] = share;
                planRows++;
            }
            return planRows;
        }

        int draw(int below) {
            seed = seed * 1103515245 + 12345;
            return below == 0 ? 0 : (seed >>> 16) % below;
        }

        int overBits() {
            int bits = 0;
            for (int i = 0; i < came; i++) {
                if (has(i) && boxes[i].laid.over > 0) {
                    bits |= 1 << i;
                }
            }
            return bits;
        }

        int overTogether() {
            int together = 0;
            for (int i = 0; i < came; i++) {
                if (has(i)) {
                    together += boxes[i].laid.over;
                }
            }
            return together;
        }

        int leftInTop(int from) {
            int left = 0;
            int number = from;
            for (int step = 0; step < MOST_BOXES && has(number); step++) {
                left += boxes[number].laid.x;
                number = boxes[number].parent;
            }
            return left;
        }

        int upperInTop(int from) {
            int upper = 0;
            int number = from;
            for (int step = 0; step < MOST_BOXES && has(number); step++) {
                upper += boxes[number].laid.y;
                number = boxes[number].parent;
            }
            return upper;
        }

        int whoIsAtPoint(int x, int y) {
            return has(top) ? whoIsAt(boxes[top], x, y, 0, 0, 0) : NO_SUCH;
        }

        private int whoIsAt(Box box, int x, int y, int parentLeft, int parentUpper, int depth) {
            int left = parentLeft + box.laid.x;
            int upper = parentUpper + box.laid.y;
            if (depth >= MOST_BOXES || x < left || x >= left + box.laid.wide
                    || y < upper || y >= upper + box.laid.high) {
                return NO_SUCH;
            }
            for (int i = box.kidCount - 1; i >= 0; i--) {
                int found = whoIsAt(kidOf(box, i), x, y, left, upper, depth + 1);
                if (found != NO_SUCH) {
                    return found;
                }
            }
            return box.number;
        }

        boolean isLaidLike(World other) {
            for (int i = 0; i < came; i++) {
                if (has(i) && !boxes[i].laid.isLike(other.boxes[i].laid)) {
                    return false;
                }
            }
            return true;
        }

        void copyFrom(World other) {
            for (int i = 0; i < other.came; i++) {
                if (other.has(i)) {
                    boxes[i].copyFrom(other.boxes[i]);
                }
            }
            System.arraycopy(other.planBoxes, 0, planBoxes, 0, MOST_ROWS);
            System.arraycopy(other.planShares, 0, planShares, 0, MOST_ROWS);
            planRows = other.planRows;
            there = other.there;
            dirty = other.dirty;
            listed = other.listed;
            based = other.based;
            came = other.came;
            top = other.top;
            screenWide = other.screenWide;
            screenHigh = other.screenHigh;
            seed = other.seed;
        }
    }

    /** Lays out one World, and counts what it does. */
    private static final class Layout {
        final World world;
        int visits;
        int skips;
        int visited;
        int work;
        int memosMade;

        Layout(World itsWorld) {
            world = itsWorld;
        }

        void layOut() {
            visits = 0;
            skips = 0;
            visited = 0;
            if (isDue(world.top, 0)) {
                lay(world.boxes[world.top], 0, world.screenWide, 0, world.screenHigh, 0);
            }
            for (int depth = 1; depth < MOST_BOXES && (world.listed & world.dirty) != 0; depth++) {
                for (int i = 0; i < world.came; i++) {
                    if (isDue(i, depth)) {
                        Box box = world.boxes[i];
                        Laid had = box.laid;
                        lay(box, had.leastWide, had.mostWide, had.leastHigh, had.mostHigh, depth);
                    }
                }
            }
            world.listed = 0;
            work += visits + skips;
        }

        private boolean isDue(int number, int depth) {
            return world.has(number) && ((world.listed & world.dirty) >>> number & 1) == 1
                    && world.boxes[number].depth == depth;
        }

        private void lay(Box box, int leastWide, int mostWide, int leastHigh, int mostHigh, int depth) {
            if (depth >= MOST_BOXES) {
                return;
            }
            if (!world.isDirty(box.number) && box.laid.wasLaidBy(leastWide, mostWide, leastHigh, mostHigh)) {
                skips++;
                return;
            }
            int bit = 1 << box.number;
            visits++;
            visited |= bit;
            box.laid.begin(leastWide, mostWide, leastHigh, mostHigh);
            layByKind(box, depth);
            world.dirty &= ~bit;
            world.based &= ~bit;
        }

        private void layByKind(Box box, int depth) {
            switch (box.kind) {
                case BLOCK:
                    box.laid.sizeTo(box.numbers[0], box.numbers[1]);
                    break;
                case TEXT:
                    layText(box);
                    break;
                case PAD:
                    layPad(box, depth);
                    break;
                case LIMIT:
                    layLimit(box, depth);
                    break;
                case CENTRE:
                    layCentre(box, depth);
                    break;
                case FIT:
                    layFit(box, depth);
                    break;
                case RATIO:
                    layRatio(box, depth);
                    break;
                case LAYERS:
                    layLayers(box, depth);
                    break;
                default:
                    layLine(box, depth);
            }
        }

        private Box onlyKid(Box box) {
            return box.kidCount > 0 ? world.kidOf(box, 0) : null;
        }

        private static int wordWide(int b, int k) {
            int m = (b + k) % 32;
            return 1 + (7 * m * m + 3 * m) % 9;
        }

        private void layText(Box box) {
            int widest = 0;
            int lines = 0;
            int line = 0;
            for (int k = 0; k < box.numbers[0]; k++) {
                int word = wordWide(box.numbers[1], k);
                if (lines > 0 && line + 1 + word <= box.laid.mostWide) {
                    line += 1 + word;
                } else {
                    line = word;
                    lines++;
                }
                widest = Math.max(widest, line);
            }
            box.laid.sizeTo(widest, 2 * lines);
            if (lines > 0) {
                box.laid.ownBase = 1;
            }
        }

        private static int lessBy(int bound, int by) {
            return bound >= NO_END ? NO_END : Math.max(0, bound - by);
        }

        private void layPad(Box box, int depth) {
            Laid laid = box.laid;
            int a = box.numbers[0];
            int b = box.numbers[1];
            Box kid = onlyKid(box);
            if (kid == null) {
                laid.sizeTo(2 * a, 2 * b);
                return;
            }
            lay(kid, lessBy(laid.leastWide, 2 * a), lessBy(laid.mostWide, 2 * a),
                    lessBy(laid.leastHigh, 2 * b), lessBy(laid.mostHigh, 2 * b), depth + 1);
            kid.laid.placeAt(a, b);
            laid.sizeTo(kid.laid.wide + 2 * a, kid.laid.high + 2 * b);
        }

        private void layLimit(Box box, int depth) {
            Laid laid = box.laid;
            int leastWide = held(box.numbers[0], laid.leastWide, laid.mostWide);
            int mostWide = held(Box.orNoEnd(box.numbers[1]), laid.leastWide, laid.mostWide);
            int leastHigh = held(box.numbers[2], laid.leastHigh, laid.mostHigh);
            int mostHigh = held(Box.orNoEnd(box.numbers[3]), laid.leastHigh, laid.mostHigh);
            Box kid = onlyKid(box);
            if (kid == null) {
                laid.sizeTo(leastWide, leastHigh);
                return;
            }
            lay(kid, leastWide, mostWide, leastHigh, mostHigh, depth + 1);
            kid.laid.placeAt(0, 0);
            laid.sizeTo(kid.laid.wide, kid.laid.high);
        }

        private void layLoose(Box box, Box kid, int depth) {
            lay(kid, 0, box.laid.mostWide, 0, box.laid.mostHigh, depth + 1);
        }

        private void layCentre(Box box, int depth) {
            Laid laid = box.laid;
            Box kid = onlyKid(box);
            int wide = 0;
            int high = 0;
            if (kid != null) {
                layLoose(box, kid, depth);
                wide = kid.laid.wide;
                high = kid.laid.high;
            }
            laid.sizeTo(laid.mostWide < NO_END ? laid.mostWide : wide, laid.mostHigh < NO_END ? laid.mostHigh : high);
            if (kid != null) {
                kid.laid.placeAt((laid.wide - wide) / 2, (laid.high - high) / 2);
            }
        }

        private void layFit(Box box, int depth) {
            Laid laid = box.laid;
            Box kid = onlyKid(box);
            if (kid == null) {
                laid.sizeTo(0, laid.leastHigh);
                return;
            }
            int wide = held(askedOf(kid, GREATEST, depth + 1), laid.leastWide, laid.mostWide);
            lay(kid, wide, wide, laid.leastHigh, laid.mostHigh, depth + 1);
            kid.laid.placeAt(0, 0);
            laid.sizeTo(kid.laid.wide, kid.laid.high);
        }

        private void layRatio(Box box, int depth) {
            Laid laid = box.laid;
            int a = box.numbers[0];
            int b = box.numbers[1];
            int wide = laid.mostWide;
            if (wide >= NO_END) {
                wide = laid.mostHigh >= NO_END ? 10 * a : timesBy(laid.mostHigh, a, b);
            }
            int high = timesBy(wide, b, a);
            if (high > laid.mostHigh) {
                high = laid.mostHigh;
                wide = timesBy(high, a, b);
            }
            laid.sizeTo(wide, high);
            Box kid = onlyKid(box);
            if (kid != null) {
                lay(kid, laid.wide, laid.wide, laid.high, laid.high, depth + 1);
                kid.laid.placeAt(0, 0);
            }
        }

        private void layLayers(Box box, int depth) {
            Laid laid = box.laid;
            int wide = 0;
            int high = 0;
            for (int i = 0; i < box.kidCount; i++) {
                Box kid = world.kidOf(box, i);
                layLoose(box, kid, depth);
                wide = Math.max(wide, kid.laid.wide);
                high = Math.max(high, kid.laid.high);
            }
            laid.sizeTo(wide, high);
            for (int i = 0; i < box.kidCount; i++) {
                Laid kid = world.kidOf(box, i).laid;
                int way = box.numbers[0];
                kid.placeAt(aligned(laid.wide - kid.wide, way), aligned(laid.high - kid.high, way));
            }
        }

        private static int aligned(int left, int way) {
            switch (way) {
                case 1: return left / 2;
                case 2: return left;
                default: return 0;
            }
        }

        private void layLine(Box box, int depth) {
            Laid laid = box.laid;
            boolean row = box.kind == ROW;
            int most = row ? laid.mostWide : laid.mostHigh;
            int together = Math.max(0, box.kidCount - 1) * box.numbers[1];
            boolean shares = most < NO_END && hasSharers(box);
            together += layWithoutShare(box, shares, depth);
            if (shares) {
                laid.rounds = roundsOf(box, Math.max(0, most - together));
                together += layByShare(box, depth);
            }
            int along = held(shares ? most : together, row ? laid.leastWide : laid.leastHigh, most);
            laid.over = Math.max(0, together - along);
            if (row && box.numbers[0] == 4) {
                standOnBase(box, along, depth);
            } else {
                int across = greatestAcross(box, row);
                laid.sizeTo(row ? along : across, row ? across : along);
                placeInLine(box, row);
            }
        }

        private boolean hasSharers(Box box) {
            for (int i = 0; i < box.kidCount; i++) {
                if (world.kidOf(box, i).share > 0) {
                    return true;
                }
            }
            return false;
        }

        /** Lays a CHILD of a ROW or COLUMN by bounds along; answers how long it is then. */
        private int layAlong(Box box, Box kid, int least, int most, int depth) {
            boolean row = box.kind == ROW;
            int mostAcross = row ? box.laid.mostHigh : box.laid.mostWide;
            int leastAcross = box.numbers[0] == 3 && mostAcross < NO_END ? mostAcross : 0;
            if (row) {
                lay(kid, least, most, leastAcross, mostAcross, depth + 1);
                return kid.laid.wide;
            }
            lay(kid, leastAcross, mostAcross, least, most, depth + 1);
            return kid.laid.high;
        }

        private int layWithoutShare(Box box, boolean sharersWait, int depth) {
            int together = 0;
            for (int i = 0; i < box.kidCount; i++) {
                Box kid = world.kidOf(box, i);
                if (!sharersWait || kid.share == 0) {
                    together += layAlong(box, kid, kid.least, Box.orNoEnd(kid.most), depth);
                }
            }
            return together;
        }

        private int layByShare(Box box, int depth) {
            int together = 0;
            for (int i = 0; i < box.kidCount; i++) {
                Box kid = world.kidOf(box, i);
                if (kid.share > 0) {
                    together += layAlong(box, kid, kid.given, kid.given, depth);
                }
            }
            return together;
        }

        private int roundsOf(Box box, int room) {
            int open = 0;
            for (int i = 0; i < box.kidCount; i++) {
                Box kid = world.kidOf(box, i);
                // those without SHARE count as frozen with nothing: ROOM is less by them already
                kid.given = 0;
                kid.frozen = kid.share == 0;
                open += kid.frozen ? 0 : 1;
            }
            int rounds = 0;
            for (; rounds < MOST_CHILDREN && open > 0; rounds++) {
                shareOut(box, room);
                open -= freeze(box);
            }
            return rounds;
        }

        private void shareOut(Box box, int room) {
            int rest = room;
            int shares = 0;
            for (int i = 0; i < box.kidCount; i++) {
                Box kid = world.kidOf(box, i);
                rest -= kid.frozen ? kid.given : 0;
                shares += kid.frozen ? 0 : kid.share;
            }
            rest = Math.max(0, rest);
            int left = rest;
            for (int i = 0; i < box.kidCount; i++) {
                Box kid = world.kidOf(box, i);
                if (!kid.frozen) {
                    kid.given = timesBy(rest, kid.share, shares);
                    left -= kid.given;
                }
            }
            for (int i = 0; i < box.kidCount && left > 0; i++) {
                Box kid = world.kidOf(box, i);
                if (!kid.frozen) {
                    kid.given++;
                    left--;
                }
            }
        }

        private int freeze(Box box) {
            int more = 0;
            for (int i = 0; i < box.kidCount; i++) {
                Box kid = world.kidOf(box, i);
                more += kid.frozen ? 0 : held(kid.given, kid.least, Box.orNoEnd(kid.most)) - kid.given;
            }
            int frozen = 0;
            for (int i = 0; i < box.kidCount; i++) {
                Box kid = world.kidOf(box, i);
                int by = held(kid.given, kid.least, Box.orNoEnd(kid.most)) - kid.given;
                if (!kid.frozen && (more == 0 || (more > 0 && by > 0) || (more < 0 && by < 0))) {
                    kid.given += by;
                    kid.frozen = true;
                    frozen++;
                }
            }
            return frozen;
        }

        private int greatestAcross(Box box, boolean row) {
            int greatest = 0;
            for (int i = 0; i < box.kidCount; i++) {
                Laid kid = world.kidOf(box, i).laid;
                greatest = Math.max(greatest, row ? kid.high : kid.wide);
            }
            return greatest;
        }

        private void placeInLine(Box box, boolean row) {
            int along = 0;
            int way = box.numbers[0];
            for (int i = 0; i < box.kidCount; i++) {
                Laid kid = world.kidOf(box, i).laid;
                if (row) {
                    kid.placeAt(along, aligned(box.laid.high - kid.high, way));
                } else {
                    kid.placeAt(aligned(box.laid.wide - kid.wide, way), along);
                }
                along += (row ? kid.wide : kid.high) + box.numbers[1];
            }
        }

        private void standOnBase(Box box, int along, int depth) {
            int above = 0;
            int below = 0;
            for (int i = 0; i < box.kidCount; i++) {
                Box kid = world.kidOf(box, i);
                int base = baseOf(kid, true, depth + 1);
                kid.given = base == NO_SUCH ? kid.laid.high : base;
                above = Math.max(above, kid.given);
                below = Math.max(below, kid.laid.high - kid.given);
            }
            box.laid.sizeTo(along, above + below);
            int x = 0;
            for (int i = 0; i < box.kidCount; i++) {
                Box kid = world.kidOf(box, i);
                kid.laid.placeAt(x, above - kid.given);
                x += kid.laid.wide + box.numbers[1];
            }
            if (box.kidCount > 0) {
                box.laid.ownBase = above;
            }
        }

        int baseAsLaid(Box box) {
            return baseOf(box, false, 0);
        }

        /** BASE of a BOX; with byRow, whoever is asked for it is BASED from then on. */
        private int baseOf(Box box, boolean byRow, int depth) {
            if (byRow) {
                world.based |= 1 << box.number;
            }
            if (!box.laid.ever || box.laid.ownBase != NO_SUCH || depth >= MOST_BOXES) {
                return box.laid.ownBase;
            }
            for (int i = 0; i < box.kidCount; i++) {
                Box kid = world.kidOf(box, i);
                int base = baseOf(kid, byRow, depth + 1);
                if (base != NO_SUCH) {
                    return kid.laid.y + base;
                }
            }
            return NO_SUCH;
        }

        int ask(Box box, int what) {
            return askedOf(box, what, 0);
        }

        private int askedOf(Box box, int what, int depth) {
            if (box.hasMemo(what) || depth >= MOST_BOXES) {
                return box.memoOf(what);
            }
            int answer = figured(box, what, depth);
            box.keepMemo(what, answer);
            memosMade++;
            return answer;
        }

        private int figured(Box box, int what, int depth) {
            int a = box.numbers[0];
            switch (box.kind) {
                case BLOCK: return a;
                case TEXT: return what == GREATEST ? wordsInALine(box) : widestWord(box);
                case PAD: return greatestOfKids(box, what, depth) + 2 * a;
                case LIMIT: return held(greatestOfKids(box, what, depth), a, Box.orNoEnd(box.numbers[1]));
                case FIT: return greatestOfKids(box, GREATEST, depth);
                case RATIO: return what == GREATEST ? 10 * a : a;
                case ROW: return kidsTogether(box, what, depth);
                default: return greatestOfKids(box, what, depth);
            }
        }

        private static int wordsInALine(Box text) {
            int wide = Math.max(0, text.numbers[0] - 1);
            for (int k = 0; k < text.numbers[0]; k++) {
                wide += wordWide(text.numbers[1], k);
            }
            return wide;
        }

        private static int widestWord(Box text) {
            int widest = 0;
            for (int k = 0; k < text.numbers[0]; k++) {
                widest = Math.max(widest, wordWide(text.numbers[1], k));
            }
            return widest;
        }

        private int greatestOfKids(Box box, int what, int depth) {
            int greatest = 0;
            for (int i = 0; i < box.kidCount; i++) {
                greatest = Math.max(greatest, askedOf(world.kidOf(box, i), what, depth + 1));
            }
            return greatest;
        }

        private int kidsTogether(Box box, int what, int depth) {
            int together = Math.max(0, box.kidCount - 1) * box.numbers[1];
            for (int i = 0; i < box.kidCount; i++) {
                Box kid = world.kidOf(box, i);
                together += held(askedOf(kid, what, depth + 1), kid.least, Box.orNoEnd(kid.most));
            }
            return together;
        }
    }

    /** Answers what would be, on copies of the World, and counts its WORK. */
    private static final class Thought {
        private static final int MOST_BLOCKS = 6, MOST_FITTING = 20, MOST_SHARE = 9;

        final World real;
        final World copy = new World();
        final World second = new World();
        final Layout ofCopy = new Layout(copy);
        final Layout ofSecond = new Layout(second);
        final int[] blocks = new int[MOST_BLOCKS];
        private int copied;

        Thought(World itsReal) {
            real = itsReal;
        }

        int workDone() {
            return copied + ofCopy.work + ofSecond.work;
        }

        boolean isTired() {
            return workDone() >= MOST_WORK;
        }

        private void beginAgain(World one) {
            one.copyFrom(real);
            copied += real.countBoxes();
        }

        int agreesAnew() {
            beginAgain(copy);
            ofCopy.layOut();
            beginAgain(second);
            second.markAllAnew();
            ofSecond.layOut();
            return copy.isLaidLike(second) ? 1 : 0;
        }

        private void tryScreen(int wide, int high) {
            beginAgain(copy);
            copy.tellScreen(wide, high);
            ofCopy.layOut();
        }

        int narrowestScreen() {
            if (!real.has(real.top)) {
                return NO_SUCH;
            }
            for (int wide = 0; wide <= MOST_SCREEN; wide++) {
                tryScreen(wide, real.screenHigh);
                if (copy.overBits() == 0) {
                    return wide;
                }
            }
            return NO_SUCH;
        }

        int highOfTop(int wide) {
            if (!real.has(real.top)) {
                return NO_SUCH;
            }
            tryScreen(wide, NO_END);
            return copy.boxes[real.top].laid.high;
        }

        int reachedFrom(int box, int what) {
            beginAgain(copy);
            ofCopy.layOut();
            copy.mark(box);
            ofCopy.layOut();
            return what == 0 ? ofCopy.visited : ofCopy.skips;
        }

        int widestShare(int box, int what) {
            int best = 0;
            int widest = -1;
            for (int share = 0; share <= MOST_SHARE; share++) {
                tryTold(box, 4, share);
                if (copy.boxes[box].laid.wide > widest) {
                    widest = copy.boxes[box].laid.wide;
                    best = share;
                }
            }
            return what == 0 ? best : widest;
        }

        private void tryTold(int box, int what, int v) {
            beginAgain(copy);
            copy.tell(box, what, v);
            ofCopy.layOut();
        }

        int fittingNumbers(int box, int number) {
            int bits = 0;
            for (int v = 0; v <= MOST_FITTING; v++) {
                if (real.boxes[box].mayBeTold(number, v)) {
                    tryTold(box, number, v);
                    bits |= copy.overBits() == 0 ? 1 << v : 0;
                }
            }
            return bits;
        }

        int visitsSaved() {
            int oneByOne = 0;
            beginAgain(copy);
            ofCopy.layOut();
            beginAgain(second);
            ofSecond.layOut();
            for (int i = 0; i < real.planRows; i++) {
                if (real.has(real.planBoxes[i])) {
                    copy.tell(real.planBoxes[i], 4, real.planShares[i]);
                    ofCopy.layOut();
                    oneByOne += ofCopy.visits;
                    second.tell(real.planBoxes[i], 4, real.planShares[i]);
                }
            }
            ofSecond.layOut();
            return oneByOne - ofSecond.visits;
        }

        int gatherBlocks() {
            int count = 0;
            for (int i = 0; i < real.came && count < MOST_BLOCKS; i++) {
                if (real.has(i) && real.boxes[i].kind == BLOCK) {
                    blocks[count] = i;
                    count++;
                }
            }
            return count;
        }

        /** Of all t to the power of count equally likely ways, those by which nothing is OVER. */
        long waysWithoutOver(int count, int t) {
            long ways = 0;
            for (int set = 0; set < 1 << count; set++) {
                beginAgain(copy);
                for (int i = 0; i < count; i++) {
                    if (((set >>> i) & 1) == 1) {
                        copy.tell(blocks[i], 0, 0);
                        copy.tell(blocks[i], 1, 0);
                    }
                }
                ofCopy.layOut();
                if (copy.overBits() == 0) {
                    ways += power(t - 1, count - Integer.bitCount(set));
                }
            }
            return ways;
        }

        int overOfDraws(int n) {
            int together = 0;
            for (int i = 0; i < n; i++) {
                tryScreen(real.draw(101), real.screenHigh);
                together += copy.overTogether();
            }
            return together;
        }
    }

    /** Finds what TREE a row of letters is, or the place of its FAULT. */
    private static final class Reader {
        final int[] kinds = new int[MOST_BOXES];
        final int[] parents = new int[MOST_BOXES];
        final int[] shares = new int[MOST_BOXES];
        final int[] kidCounts = new int[MOST_BOXES];
        final int[][] numbers = new int[MOST_BOXES][MOST_NUMBERS];
        int count;
        private char[] letters;
        private int length;
        private int numbersLeft;
        /** The letter that is next; as reading ends too early, the FAULT. */
        private int place;
        private boolean whole;

        int faultOf(char[] row, int howMany, int left) {
            letters = row;
            length = Math.min(howMany, row.length);
            numbersLeft = left;
            place = 0;
            count = 0;
            whole = false;
            int parent = NONE;
            for (int step = 0; step < MOST_BOXES; step++) {
                if (!readBox(parent)) {
                    return place;
                }
                parent = parentOfNext();
                if (parent == NONE) {
                    return whole && place == length ? NONE : place;
                }
            }
            return place;
        }

        private char next() {
            return place < length ? letters[place] : 0;
        }

        private boolean passed(char wanted) {
            if (next() != wanted) {
                return false;
            }
            place++;
            return true;
        }

        /** Who holds the BOX that comes next; NONE: none comes, the TREE is whole or at a FAULT. */
        private int parentOfNext() {
            int holder = count - 1;
            if (passed('(')) {
                return holder;
            }
            holder = parents[holder];
            for (int step = 0; step < MOST_BOXES && holder != NONE; step++) {
                if (passed(',')) {
                    return holder;
                }
                if (!passed(')')) {
                    return NONE;
                }
                holder = parents[holder];
            }
            whole = holder == NONE;
            return NONE;
        }

        private boolean readBox(int parent) {
            boolean taken = parent == NONE || kidCounts[parent] < Kinds.childrenOf(kinds[parent]);
            if (!taken || count >= numbersLeft || count >= MOST_BOXES) {
                return false;
            }
            int kind = readName();
            if (kind == NONE) {
                return false;
            }
            int box = count;
            count++;
            kinds[box] = kind;
            parents[box] = parent;
            kidCounts[box] = 0;
            if (parent != NONE) {
                kidCounts[parent]++;
            }
            return readNumbers(box) && readShare(box);
        }

        private int readName() {
            int longest = 0;
            for (int kind = 0; kind < KINDS; kind++) {
                String name = Kinds.nameOf(kind);
                int same = lettersLike(name);
                longest = Math.max(longest, same);
                if (same == name.length()) {
                    place += same;
                    return kind;
                }
            }
            place += longest;
            return NONE;
        }

        private int lettersLike(String name) {
            int longest = Math.min(name.length(), length - place);
            for (int same = 0; same < longest; same++) {
                if (letters[place + same] != name.charAt(same)) {
                    return same;
                }
            }
            return Math.max(0, longest);
        }

        private boolean nextIsFigure() {
            return next() >= '0' && next() <= '9';
        }

        private boolean readNumbers(int box) {
            int[] row = numbers[box];
            Arrays.fill(row, 0);
            for (int i = 0; i < Kinds.numbersOf(kinds[box]); i++) {
                if (!passed(' ') || !nextIsFigure()) {
                    return false;
                }
                int first = place;
                row[i] = readNumber();
                boolean belowItsLeast = kinds[box] == LIMIT && i % 2 == 1 && row[i] < row[i - 1];
                if (belowItsLeast || !Kinds.isInRange(kinds[box], i, row[i])) {
                    place = first;
                    return false;
                }
            }
            return true;
        }

        private int readNumber() {
            int v = 0;
            for (int i = 0; i < 2 && nextIsFigure(); i++) {
                v = 10 * v + next() - '0';
                place++;
            }
            return v;
        }

        private boolean readShare(int box) {
            shares[box] = 0;
            if (!passed('*')) {
                return true;
            }
            if (!nextIsFigure()) {
                return false;
            }
            shares[box] = next() - '0';
            place++;
            return true;
        }
    }

    /** Writes a BOX with all in it as a TREE in words. */
    private static final class Printer {
        private static final int MOST_PRINTED = 40 * MOST_BOXES;

        final char[] text = new char[MOST_PRINTED];
        int length;
        private final World world;

        Printer(World itsWorld) {
            world = itsWorld;
        }

        void print(int box) {
            length = 0;
            if (world.has(box)) {
                write(world.boxes[box], 0);
            }
        }

        private void write(Box box, int depth) {
            if (depth >= MOST_BOXES) {
                return;
            }
            putWord(Kinds.nameOf(box.kind));
            for (int i = 0; i < Kinds.numbersOf(box.kind); i++) {
                put(' ');
                putNumber(box.numbers[i]);
            }
            if (box.share > 0) {
                put('*');
                putNumber(box.share);
            }
            for (int i = 0; i < box.kidCount; i++) {
                put(i == 0 ? '(' : ',');
                write(world.kidOf(box, i), depth + 1);
            }
            if (box.kidCount > 0) {
                put(')');
            }
        }

        private void put(char c) {
            if (length < MOST_PRINTED) {
                text[length] = c;
                length++;
            }
        }

        private void putWord(String word) {
            for (int i = 0; i < word.length(); i++) {
                put(word.charAt(i));
            }
        }

        private void putNumber(int v) {
            if (v >= 10) {
                put((char) ('0' + v / 10));
            }
            put((char) ('0' + v % 10));
        }
    }

    /** A row of one sort, or nothing; its items stand as longs, cut to what the sort holds. */
    private static final class Tape {
        static final int EMPTY = -1, BYTES = 0, SHORTS = 1, INTS = 2, LONGS = 3;

        final long[] items = new long[MOST_ITEMS];
        int sort = EMPTY;
        int length;

        void clearTo(int newSort, int newLength) {
            sort = newSort;
            length = newLength;
            Arrays.fill(items, 0L);
        }

        boolean hasPlace(int i) {
            return i >= 0 && i < length;
        }

        boolean hasRun(int from, int n) {
            return n >= 0 && from >= 0 && n <= length && from <= length - n;
        }

        long cutToSort(long v) {
            switch (sort) {
                case BYTES: return (byte) v;
                case SHORTS: return (short) v;
                case INTS: return (int) v;
                default: return v;
            }
        }
    }
}
