/** Edges of promises 1 to 9, and of the Terms about BOXES. */
final class BoxEdges {
    private static final int NONE = -1, BAD = -2, STATE = -3, FULL = -4, NO_SUCH = -5, NOTHING = -11;
    private static final int BLOCK = 0, TEXT = 1, PAD = 2, LIMIT = 3, CENTRE = 4, FIT = 5, RATIO = 6, LAYERS = 7,
            ROW = 8, COLUMN = 9;
    private static final int LOWEST = Integer.MIN_VALUE, HIGHEST = Integer.MAX_VALUE;
    private static final int[] NO_BOXES = {-1, -2, 3, 23, 24, 31, 32, 33, 64, LOWEST, HIGHEST};

    private BoxEdges() {
    }

    static void all() {
        aNewObject();
        numbering();
        kinds();
        sharesLeastsMosts();
        theTopAndItsChildren();
        comes();
        comesRefused();
        tells();
        drops();
        moves();
        screen();
        of();
        child();
        letter();
    }

    private static void due(String what, long got, long want) {
        Edge.due(what, got, want);
    }

    private static void aNewObject() {
        Edge.of(1, "No BOXES.");
        LaidOutBoxes x = new LaidOutBoxes();
        due("bits", x.told(3), 0);
        due("how many came", x.told(9), 0);
        due("DIRTY ones", x.told(4), 0);
        due("THE LIST", x.told(5), 0);
        due("those OVER", x.told(6), 0);
        for (int box = -2; box <= 25; box++) {
            due("of", x.of(box, 0), NONE);
            due("at", x.at(box, 8), NONE);
            due("bounds", x.bounds(box, 0), NONE);
            due("child", x.child(box, 0), NONE);
            due("printed", x.printed(box, -1), NONE);
            due("taken", x.taken(box, 0), NOTHING);
        }
        due("lays() finds nothing to do", x.lays(), 0);
        due("a second one is as empty", new LaidOutBoxes().told(9), 0);
        x.comes(BLOCK, -1, 1, 1, 0, 0);
        due("objects have nothing in common", new LaidOutBoxes().told(9), 0);
    }

    private static void numbering() {
        Edge.of(2, "BOXES are numbered 0, 1, .. as they come (24 at most; a number is not given again).");
        LaidOutBoxes x = new LaidOutBoxes();
        for (int i = 0; i < 24; i++) {
            due("the next number", x.comes(PAD, i - 1, 0, 0, 0, 0), i);
        }
        due("the 25th", x.comes(PAD, 23, 0, 0, 0, 0), FULL);
        due("24 bits", x.told(3), 0xFFFFFF);
        due("all go", x.drops(0), 24);
        due("none is given again, though none is there", x.comes(BLOCK, -1, 1, 1, 0, 0), FULL);
        LaidOutBoxes y = Check.tree("row 0 0(fit,fit)");
        y.drops(2);
        due("not the one dropped last", y.comes(FIT, 0, 0, 0, 0, 0), 3);
        y.drops(1);
        due("not one dropped before", y.comes(FIT, 0, 0, 0, 0, 0), 4);
        due("not by reads()", Check.read(y, 0, "fit") * 10 + y.child(0, 2), 15);
        Edge.of(17, "An object is used for at most 512 calls after it has been made; what later calls answer is free.");
        LaidOutBoxes z = new LaidOutBoxes();
        z.comes(BLOCK, -1, 0, 0, 0, 0);
        for (int call = 2; call < 512; call++) {
            z.tells(0, call % 2, call % 100);
        }
        due("the 512th is answered as the first", z.lays(), 1);
    }

    private static int comeAlone(int kind, int[] n) {
        return new LaidOutBoxes().comes(kind, -1, n[0], n[1], n[2], n[3]);
    }

    private static int tellAlone(int kind, int[] first, int i, int v) {
        LaidOutBoxes x = new LaidOutBoxes();
        x.comes(kind, -1, first[0], first[1], first[2], first[3]);
        return x.tells(0, i, v);
    }

    /** Number i of a KIND may be lowest .. highest, the others being as in first. */
    private static void range(int kind, int[] first, int i, int lowest, int highest) {
        int[] may = {lowest, highest, (lowest + highest) / 2};
        int[] mayNot = {lowest - 1, highest + 1, LOWEST, HIGHEST};
        for (int v : may) {
            int[] n = first.clone();
            n[i] = v;
            due("comes with " + v + " as number " + i, comeAlone(kind, n), 0);
            due("is told " + v + " as number " + i, tellAlone(kind, first, i, v), first[i]);
        }
        for (int v : mayNot) {
            int[] n = first.clone();
            n[i] = v;
            due("comes with " + v + " as number " + i, comeAlone(kind, n), BAD);
            due("is told " + v + " as number " + i, tellAlone(kind, first, i, v), BAD);
        }
    }

    private static void hasNot(int kind, int[] first, int i) {
        for (int v : new int[] {-1, 0, 1000, LOWEST, HIGHEST}) {
            int[] n = first.clone();
            n[i] = v;
            LaidOutBoxes x = new LaidOutBoxes();
            due("comes with " + v + " as number " + i, x.comes(kind, -1, n[0], n[1], n[2], n[3]), 0);
            due("that is 0", x.of(0, 3 + i), 0);
            due("it can't be told", x.tells(0, i, v), NONE);
            due("it can't be tried", x.fits(0, i), NONE);
        }
    }

    private static void takes(int kind, String name, int children) {
        LaidOutBoxes x = new LaidOutBoxes();
        x.comes(kind, -1, 1, 1, 1, 1);
        StringBuilder tree = new StringBuilder(name).append('(');
        for (int i = 0; i < children; i++) {
            due("CHILD " + i, x.comes(CENTRE, 0, 0, 0, 0, 0), i + 1);
            tree.append(i == 0 ? "fit" : ",fit");
        }
        due("no more", x.comes(CENTRE, 0, 0, 0, 0, 0), STATE);
        due("no more, in words", Check.read(x, 0, "fit"), STATE);
        if (children > 0) {
            due("as many in words", Check.read(new LaidOutBoxes(), -1, tree + ")"), 1 + children);
            tree.append(',');
            x.drops(1);
            due("one more, as one is gone", x.comes(CENTRE, 0, 0, 0, 0, 0), children + 1);
        }
        due("no more in words", Check.read(new LaidOutBoxes(), -1, tree + "fit)"), -100 - tree.length());
    }

    private static void kind(int kind, String name, int children, int[][] ranges) {
        int[] first = {1, 1, 1, 1};
        if (kind == LIMIT) {
            first = new int[] {0, 99, 0, 99};
        }
        for (int i = 0; i < 4; i++) {
            if (i < ranges.length) {
                range(kind, first, i, ranges[i][0], ranges[i][1]);
            } else {
                hasNot(kind, first, i);
            }
        }
        takes(kind, name, children);
    }

    private static void kinds() {
        Edge.of(2, "0 BLOCK (a, b 0 .. 99; no CHILDREN)");
        kind(BLOCK, "block 1 1", 0, new int[][] {{0, 99}, {0, 99}});
        Edge.of(2, "1 TEXT (a 0 .. 12, b 0 .. 31; no CHILDREN)");
        kind(TEXT, "text 1 1", 0, new int[][] {{0, 12}, {0, 31}});
        Edge.of(2, "2 PAD (a, b 0 .. 20; one CHILD at most)");
        kind(PAD, "pad 1 1", 1, new int[][] {{0, 20}, {0, 20}});
        Edge.of(2, "3 LIMIT (a, b, c, d 0 .. 99; a not above b, c not above d;");
        kind(LIMIT, "limit 1 1 1 1", 1, new int[][] {{0, 99}, {0, 99}, {0, 99}, {0, 99}});
        int[][] orders = {{5, 5, 7, 7, 0}, {6, 5, 7, 7, BAD}, {5, 5, 8, 7, BAD}, {6, 5, 8, 7, BAD}, {0, 0, 0, 0, 0}};
        for (int[] o : orders) {
            due("limit " + o[0] + " " + o[1] + " " + o[2] + " " + o[3], comeAlone(LIMIT, o), o[4]);
        }
        int[] first = {5, 7, 5, 7};
        for (int i = 0; i < 4; i++) {
            due("told 5", tellAlone(LIMIT, first, i, 5), first[i]);
            due("told 7", tellAlone(LIMIT, first, i, 7), first[i]);
            due("told 4", tellAlone(LIMIT, first, i, 4), i % 2 == 0 ? first[i] : BAD);
            due("told 8", tellAlone(LIMIT, first, i, 8), i % 2 == 0 ? BAD : first[i]);
        }
        Edge.of(2, "one CHILD): the CHILD by BOUNDS from a to b");
        takes(LIMIT, "limit 1 1 1 1", 1);
        Edge.of(2, "4 CENTRE (one CHILD)");
        kind(CENTRE, "centre", 1, new int[][] {});
        Edge.of(2, "5 FIT (one CHILD)");
        kind(FIT, "fit", 1, new int[][] {});
        Edge.of(2, "6 RATIO (a, b 1 .. 9; one CHILD)");
        kind(RATIO, "ratio 1 1", 1, new int[][] {{1, 9}, {1, 9}});
        Edge.of(2, "7 LAYERS (a 0 .. 2; eight CHILDREN at most)");
        kind(LAYERS, "layers 1", 8, new int[][] {{0, 2}});
        Edge.of(2, "8 ROW (a 0 .. 4, b 0 .. 20; eight CHILDREN)");
        kind(ROW, "row 1 1", 8, new int[][] {{0, 4}, {0, 20}});
        Edge.of(2, "9 COLUMN the other way about.");
        kind(COLUMN, "column 1 1", 8, new int[][] {{0, 4}, {0, 20}});
    }

    private static void sharesLeastsMosts() {
        Edge.of(3, "One is of a KIND, with numbers a, b, c, d (those its KIND has), a SHARE (0 .. 9),");
        LaidOutBoxes x = Check.tree("row 0 0(block 5 5)");
        for (int v : new int[] {-1, 10, LOWEST, HIGHEST}) {
            due("SHARE " + v, x.tells(1, 4, v), BAD);
        }
        due("the most", x.tells(1, 4, 9), 0);
        due("the least", x.tells(1, 4, 0), 9);
        Edge.of(3, "a LEAST, a MOST (0 .. 99;");
        for (int what = 5; what <= 6; what++) {
            for (int v : new int[] {-1, 100, 1000, LOWEST, HIGHEST}) {
                due("told " + v + " as " + what, x.tells(1, what, v), BAD);
            }
        }
        due("the least MOST", x.tells(1, 6, 0), 99);
        due("the greatest MOST", x.tells(1, 6, 99), 0);
        due("the greatest LEAST", x.tells(1, 5, 99), 0);
        due("the least LEAST", x.tells(1, 5, 0), 99);
        Edge.of(3, "a MOST of 99 has NO END;");
        x.lays();
        Check.dueBounds(x, 1, 0, 1000, 0, 100);
        x.tells(1, 6, 98);
        x.lays();
        Check.dueBounds(x, 1, 0, 98, 0, 100);
        x.tells(1, 6, 99);
        x.tells(1, 5, 99);
        x.lays();
        Check.dueBounds(x, 1, 99, 1000, 0, 100);
        due("a LEAST of 99 is 99", x.at(1, 4), 99);
        Edge.of(3, "LEAST is not above MOST;");
        x.tells(1, 5, 50);
        due("MOST below LEAST", x.tells(1, 6, 49), BAD);
        due("MOST alike", x.tells(1, 6, 50), 99);
        due("LEAST above MOST", x.tells(1, 5, 51), BAD);
        due("LEAST alike", x.tells(1, 5, 50), 50);
        x.tells(1, 5, 0);
        x.tells(1, 6, 0);
        due("LEAST above a MOST of 0", x.tells(1, 5, 1), BAD);
        Edge.of(2, "0, 0, 99 at first);");
        LaidOutBoxes y = new LaidOutBoxes();
        for (int kind = BLOCK; kind <= COLUMN; kind++) {
            y = new LaidOutBoxes();
            y.comes(kind, -1, 1, 1, 1, 1);
            due("KIND " + kind, y.of(0, 7) * 10000 + y.of(0, 8) * 100 + y.of(0, 9), 99);
        }
    }

    private static void theTopAndItsChildren() {
        Edge.of(2, "it has a PARENT, but THE TOP (one at most) none;");
        LaidOutBoxes x = new LaidOutBoxes();
        due("none yet", x.told(2), NO_SUCH);
        x.comes(ROW, -1, 0, 0, 0, 0);
        due("THE TOP", x.told(2), 0);
        due("has no PARENT", x.of(0, 1), -1);
        due("a second one", x.comes(ROW, -1, 0, 0, 0, 0), STATE);
        due("a second one in words", Check.read(x, -1, "fit"), STATE);
        x.drops(0);
        due("none any more", x.told(2), NO_SUCH);
        due("another one then", x.comes(ROW, -1, 0, 0, 0, 0), 1);
        due("it is THE TOP", x.told(2), 1);
        Edge.of(8, "its CHILDREN are in order.");
        for (int i = 0; i < 8; i++) {
            due("as it comes", x.comes(BLOCK, 1, i, i, 0, 0), 2 + i);
        }
        for (int i = 0; i < 8; i++) {
            due("place " + i, x.child(1, i), 2 + i);
        }
        x.drops(5);
        for (int i = 0; i < 7; i++) {
            due("place " + i + " without one of them", x.child(1, i), i < 3 ? 2 + i : 3 + i);
        }
        due("no eighth one", x.child(1, 7), NONE);
    }

    private static void comes() {
        Edge.of(2, "A BOX comes, the last CHILD of a PARENT (-1: as THE TOP): its number.");
        LaidOutBoxes x = new LaidOutBoxes();
        due("as THE TOP", x.comes(LAYERS, -1, 0, 0, 0, 0), 0);
        due("a CHILD", x.comes(LAYERS, 0, 0, 0, 0, 0), 1);
        due("another", x.comes(LAYERS, 0, 0, 0, 0, 0), 2);
        due("behind it", x.child(0, 0) * 10 + x.child(0, 1), 12);
        x.moves(2, 0);
        x.comes(LAYERS, 0, 0, 0, 0, 0);
        due("behind the last one", x.child(0, 0) * 100 + x.child(0, 1) * 10 + x.child(0, 2), 213);
        due("its PARENT", x.of(3, 1), 0);
        due("how deep", x.of(3, 14), 1);
        Edge.of(3, "A new BOX is DIRTY.");
        LaidOutBoxes y = Check.laidTree("pad 1 1");
        due("nothing is DIRTY", y.told(4), 0);
        y.comes(BLOCK, 0, 1, 1, 0, 0);
        due("the new one, and who got it", y.told(4), 3);
        due("it isn't on THE LIST", y.of(1, 11), 0);
    }

    private static void comesRefused() {
        Edge.of(2, "NONE: parent; BAD: kind, a number its KIND has (others don't matter, they are 0);");
        LaidOutBoxes x = Check.tree("pad 1 1(row 0 0(block 1 1))");
        for (int parent : NO_BOXES) {
            if (parent != -1) {
                due("parent " + parent, x.comes(BLOCK, parent, 1, 1, 0, 0), NONE);
                due("parent " + parent + " ahead of BAD", x.comes(BLOCK, parent, 100, 1, 0, 0), NONE);
            }
        }
        for (int kind : new int[] {-1, 10, 11, LOWEST, HIGHEST}) {
            due("kind " + kind, x.comes(kind, 1, 1, 1, 0, 0), BAD);
            due("kind " + kind + " ahead of STATE", x.comes(kind, -1, 1, 1, 0, 0), BAD);
            due("kind " + kind + " ahead of STATE", x.comes(kind, 2, 1, 1, 0, 0), BAD);
        }
        x.drops(2);
        due("a PARENT that is gone", x.comes(BLOCK, 2, 1, 1, 0, 0), NONE);
        Edge.of(2, "STATE: there is a TOP, or the PARENT doesn't take one more;");
        due("there is a TOP", x.comes(BLOCK, -1, 1, 1, 0, 0), STATE);
        due("the PAD has its CHILD", x.comes(BLOCK, 0, 1, 1, 0, 0), STATE);
        due("a number ahead of STATE", x.comes(BLOCK, 0, 1, -1, 0, 0), BAD);
        due("the next one comes all the same", x.comes(BLOCK, 1, 1, 1, 0, 0), 3);
        due("a BLOCK takes none", x.comes(BLOCK, 3, 1, 1, 0, 0), STATE);
        Edge.of(2, "FULL: 24 came.");
        for (int i = 4; i < 24; i++) {
            due("comes", x.comes(ROW, i < 10 ? 1 : i - 6, 0, 0, 0, 0), i);
        }
        due("no 25th", x.comes(ROW, 23, 0, 0, 0, 0), FULL);
        due("NONE ahead of FULL", x.comes(ROW, 24, 0, 0, 0, 0), NONE);
        due("BAD ahead of FULL", x.comes(10, 23, 0, 0, 0, 0), BAD);
        due("STATE ahead of FULL", x.comes(ROW, -1, 0, 0, 0, 0), STATE);
        due("STATE ahead of FULL", x.comes(ROW, 3, 0, 0, 0, 0), STATE);
        due("24 came", x.told(9), 24);
    }

    private static void tells() {
        Edge.of(3, "One of the numbers (what 0 a .. 3 d), SHARE (4), LEAST (5), MOST (6) becomes v: what it was.");
        LaidOutBoxes x = Check.tree("limit 10 20 30 40(ratio 1 9)");
        int[] first = {10, 20, 30, 40, 0, 0, 99};
        int[] then = {11, 19, 31, 39, 9, 1, 98};
        for (int what = 0; what <= 6; what++) {
            due("what it was", x.tells(0, what, then[what]), first[what]);
            due("what it is", x.of(0, 3 + what), then[what]);
            due("alike", x.tells(0, what, then[what]), then[what]);
        }
        Edge.of(3, "NONE: box, what (also a number its KIND hasn't); BAD.");
        for (int box : NO_BOXES) {
            due("box " + box, x.tells(box, 4, 1), NONE);
            due("box " + box + " ahead of BAD", x.tells(box, 4, 10), NONE);
        }
        for (int what : new int[] {-1, 7, 8, LOWEST, HIGHEST}) {
            due("what " + what, x.tells(0, what, 1), NONE);
            due("what " + what + " ahead of BAD", x.tells(0, what, -1), NONE);
        }
        due("a RATIO has no c", x.tells(1, 2, 1), NONE);
        due("a RATIO has no d, ahead of BAD", x.tells(1, 3, 100), NONE);
        due("a RATIO's a of 0", x.tells(1, 0, 0), BAD);
        due("a RATIO's b of 10", x.tells(1, 1, 10), BAD);
        due("nothing was told", x.of(1, 3) * 10 + x.of(1, 4), 19);
    }

    private static void drops() {
        Edge.of(4, "A BOX and all in it are no more: how many.");
        LaidOutBoxes x = Check.onScreen(5, 5, "row 4 0(row 4 0(text 1 1,block 9 9),block 9 9,layers 0(block 1 1))");
        x.tells(1, 6, 3);
        x.lays();
        due("OVER", x.told(6), 3);
        due("one with none in it", x.drops(4), 1);
        due("one with two in it", x.drops(1), 3);
        due("those there", x.told(3), 1 + 32 + 64);
        due("those OVER", x.told(6), 1);
        for (int box = 1; box <= 4; box++) {
            due("of", x.of(box, 0), NONE);
            due("at", x.at(box, 4), NONE);
            due("bounds", x.bounds(box, 0), NONE);
            due("tells", x.tells(box, 4, 1), NONE);
            due("asks", x.asks(box, 0), NONE);
            due("moves", x.moves(box, 0), NONE);
            due("comes", x.comes(BLOCK, box, 1, 1, 0, 0), NONE);
            due("taken", x.taken(box, BLOCK), NOTHING);
            due("plan", x.plan(box, 1), NONE);
            due("again", x.drops(box), NONE);
        }
        LaidOutBoxes y = Check.laidTree("ratio 1 1(ratio 1 1(block 1 1))");
        y.tells(2, 0, 3);
        due("on THE LIST", y.told(5), 4);
        y.drops(2);
        due("not any more, but who lost it is", y.told(5) * 10 + y.told(4), 22);
        due("THE TOP, too", y.drops(0), 2);
        due("nothing is DIRTY or on THE LIST", y.told(4) + y.told(5), 0);
        due("nothing to do", y.lays(), 0);
        Edge.of(4, "how many. NONE.");
        for (int box : NO_BOXES) {
            due("box " + box, y.drops(box), NONE);
        }
        due("a BOX that is gone", y.drops(0), NONE);
    }

    private static int orderOf(LaidOutBoxes x, int box) {
        int order = 0;
        for (int i = 0; i < x.of(box, 2); i++) {
            order = 10 * order + x.child(box, i);
        }
        return order;
    }

    private static void moves() {
        Edge.of(5, "A BOX comes to place i among its PARENT's CHILDREN: where it was.");
        LaidOutBoxes x = Check.tree("layers 0(fit,fit,fit,fit,fit,fit,fit,fit)");
        due("from the first place to the last", x.moves(1, 7), 0);
        due("order", orderOf(x, 0), 23456781);
        due("from the last place to the first", x.moves(1, 0), 7);
        due("order", orderOf(x, 0), 12345678);
        due("by one up", x.moves(4, 4), 3);
        due("order", orderOf(x, 0), 12354678);
        due("by one down", x.moves(4, 3), 4);
        due("order", orderOf(x, 0), 12345678);
        due("where it is", x.moves(8, 7), 7);
        due("order", orderOf(x, 0), 12345678);
        x.comes(BLOCK, 3, 1, 1, 0, 0);
        due("an only CHILD", x.moves(9, 0), 0);
        Edge.of(5, "NONE: box, THE TOP; BAD: i.");
        for (int box : NO_BOXES) {
            if (box != 3) {
                due("box " + box, x.moves(box, 0), NONE);
                due("box " + box + " ahead of BAD", x.moves(box, -1), NONE);
            }
        }
        due("THE TOP", x.moves(0, 0), NONE);
        due("THE TOP ahead of BAD", x.moves(0, 8), NONE);
        for (int i : new int[] {-1, 8, LOWEST, HIGHEST}) {
            due("place " + i, x.moves(2, i), BAD);
        }
        due("place 1 of an only CHILD", x.moves(9, 1), BAD);
        due("order", orderOf(x, 0), 12345678);
    }

    private static void screen() {
        Edge.of(6, "THE SCREEN: WIDE (0 .. 200), HIGH (0 .. 200, or 1000) (both 100 at first).");
        LaidOutBoxes x = new LaidOutBoxes();
        due("WIDE at first", x.told(0), 100);
        due("HIGH at first", x.told(1), 100);
        int[][] may = {{0, 0}, {200, 200}, {0, 1000}, {200, 1000}, {200, 0}, {1, 199}};
        int was = 100100;
        for (int[] m : may) {
            due("screen(" + m[0] + ", " + m[1] + ")", x.screen(m[0], m[1]), was);
            due("told", x.told(0) * 10000 + x.told(1), m[0] * 10000 + m[1]);
            was = 1000 * m[0] + m[1];
        }
        Edge.of(6, "THE SCREEN: 1000 times WIDE and HIGH as they were. BAD.");
        int[][] mayNot = {{-1, 5}, {201, 5}, {1000, 5}, {LOWEST, 5}, {HIGHEST, 5}, {5, -1}, {5, 201}, {5, 999}, {5, 1001},
            {5, LOWEST}, {5, HIGHEST}, {-1, -1}};
        for (int[] m : mayNot) {
            due("screen(" + m[0] + ", " + m[1] + ")", x.screen(m[0], m[1]), BAD);
            due("as it was", x.told(0) * 1000 + x.told(1), was);
        }
        x.screen(200, 1000);
        due("NO END counts as 1000", x.screen(0, 0), 201000);
    }

    private static void of() {
        Edge.of(7, "Of a BOX: 0 KIND, 1 PARENT (-1), 2 how many CHILDREN, 3 .. 6 numbers, 7 SHARE, 8 LEAST, 9 MOST,"
                + " 10 DIRTY (1, 0), 11 on THE LIST, 12 MEMOS (1 GREATEST, 2 NARROW), 13 BASED, 14 how deep.");
        LaidOutBoxes x = Check.laidTree("row 4 20(limit 11 12 13 14*7(text 2 2))");
        x.tells(1, 6, 50);
        x.tells(1, 5, 40);
        x.asks(2, 1);
        int[][] wanted = {{ROW, -1, 1, 4, 20, 0, 0, 0, 0, 99, 1, 1, 0, 0, 0},
            {LIMIT, 0, 1, 11, 12, 13, 14, 7, 40, 50, 0, 0, 0, 1, 1},
            {TEXT, 1, 0, 2, 2, 0, 0, 0, 0, 99, 0, 0, 2, 1, 2}};
        for (int box = 0; box < 3; box++) {
            for (int what = 0; what <= 14; what++) {
                due("of(" + box + ", " + what + ")", x.of(box, what), wanted[box][what]);
            }
        }
        x.asks(2, 0);
        due("both MEMOS", x.of(2, 12), 3);
        x.lays();
        due("DIRTY no more", x.of(0, 10), 0);
        due("on THE LIST no more", x.of(0, 11), 0);
        LaidOutBoxes deep = new LaidOutBoxes();
        for (int i = 0; i < 24; i++) {
            deep.comes(LAYERS, i - 1, 0, 0, 0, 0);
            due("how deep", deep.of(i, 14), i);
        }
        Edge.of(7, "14 how deep. NONE.");
        for (int box : NO_BOXES) {
            due("box " + box, x.of(box, 0), NONE);
        }
        for (int what : new int[] {-1, 15, 16, LOWEST, HIGHEST}) {
            due("what " + what, x.of(0, what), NONE);
        }
    }

    private static void child() {
        Edge.of(8, "The i-th CHILD. NONE.");
        LaidOutBoxes x = Check.tree("row 0 0(fit(block 1 1),fit,fit,fit,fit,fit,fit,fit)");
        due("the first", x.child(0, 0), 1);
        due("the last", x.child(0, 7), 9);
        due("an only one", x.child(1, 0), 2);
        for (int i : new int[] {-1, 8, 9, LOWEST, HIGHEST}) {
            due("place " + i, x.child(0, i), NONE);
        }
        due("behind an only one", x.child(1, 1), NONE);
        due("who has none", x.child(2, 0), NONE);
        due("whom a CHILD could come to", x.child(3, 0), NONE);
        for (int box : new int[] {-1, 10, 24, 32, LOWEST, HIGHEST}) {
            due("box " + box, x.child(box, 0), NONE);
        }
        x.drops(9);
        due("the last is gone", x.child(0, 7), NONE);
    }

    private static void letter() {
        Edge.of(9, "A letter (32 .. 126) comes: how many there are. BAD; FULL.");
        LaidOutBoxes x = new LaidOutBoxes();
        int[] mayNot = {31, 127, 0, -1, 128, 255, 32 + 256, 32 + 65536, LOWEST, HIGHEST};
        for (int c : mayNot) {
            due("letter " + c, x.letter(c), BAD);
        }
        due("none came", x.told(10), 0);
        due("the first letter", x.letter(32), 1);
        due("the last letter", x.letter(126), 2);
        Edge.of(9, "A TREE in words (letters; 120 at most):");
        for (int i = 3; i <= 120; i++) {
            due("how many", x.letter(32 + i % 95), i);
        }
        due("the 121st", x.letter(32), FULL);
        for (int c : mayNot) {
            due("BAD ahead of FULL", x.letter(c), BAD);
        }
        due("120 stay", x.told(10), 120);
        x.reads(-1);
        due("none then, so one more may come", x.letter(32), 1);
        LaidOutBoxes y = new LaidOutBoxes();
        String tree = "row 0 0(fit,fit,fit,fit,fit,fit,fit(layers 2(centre,centre,centre,centre)),"
                + "row 00 00(column 00 00,text 09 00*9,fit,fit))";
        due("a TREE of 120 letters", tree.length(), 120);
        due("is read", Check.read(y, -1, tree), 18);
    }
}
