/** Promises 1 to 11: a new object, BOXES coming, told, dropped and moved, TREES in words. */
public final class BoxesTest {
    private static final int NONE = -1, BAD = -2, STATE = -3, FULL = -4, NO_SUCH = -5;
    private static final int BLOCK = 0, TEXT = 1, PAD = 2, LIMIT = 3, CENTRE = 4, FIT = 5, RATIO = 6, LAYERS = 7,
            ROW = 8, COLUMN = 9;

    public static void main(String[] args) {
        aNewObject();
        comesInOrder();
        comesRefused();
        comesNumbers();
        tellsEach();
        tellsRefused();
        tellsMarks();
        drops();
        moves();
        screen();
        ofAndChild();
        marking();
        letters();
        readsTrees();
        readsFaults();
        readsRefused();
        printed();
        Check.end("promises 1 to 11");
    }

    private static void due(String what, long got, long want) {
        Check.due(what, got, want);
    }

    private static void aNewObject() {
        LaidOutBoxes x = new LaidOutBoxes();
        int[] wanted = {100, 100, NO_SUCH, 0, 0, 0, 0, 0, 0, 0, 0, 0, 0, 0};
        for (int what = 0; what < wanted.length; what++) {
            due("1: told(" + what + ")", x.told(what), wanted[what]);
        }
        due("1: lays()", x.lays(), 0);
        due("1: hit", x.hit(0, 0), NO_SUCH);
        due("1: of(0, 0)", x.of(0, 0), NONE);
        due("1: seed", x.seed(5), 1);
        due("1: undo", x.undo(), STATE);
        due("1: mean", x.mean(0), LaidOutBoxes.NO);
        due("1: peek", x.peek(0, 0), LaidOutBoxes.NO);
    }

    private static void comesInOrder() {
        LaidOutBoxes x = new LaidOutBoxes();
        due("2: THE TOP", x.comes(ROW, -1, 0, 2, 77, -5), 0);
        due("2: a child", x.comes(BLOCK, 0, 3, 4, 1000, 1000), 1);
        due("2: another", x.comes(TEXT, 0, 12, 31, 0, 0), 2);
        due("2: its order", x.child(0, 0) * 10 + x.child(0, 1), 12);
        due("2: what isn't had is 0", x.of(0, 5) + x.of(0, 6) + x.of(1, 5) + x.of(1, 6), 0);
        due("2: SHARE, LEAST, MOST", x.of(1, 7) * 10000 + x.of(1, 8) * 100 + x.of(1, 9), 99);
        due("2: the new are DIRTY", x.told(4), 7);
        due("2: THE TOP alone is listed", x.told(5), 1);
        due("2: a number isn't given again", x.drops(2) * 100 + x.comes(BLOCK, 0, 1, 1, 0, 0), 103);
        x.drops(0);
        due("2: a new TOP", x.comes(CENTRE, -1, -9, -9, -9, -9), 4);
        due("2: it is THE TOP", x.told(2), 4);
        due("2: and on THE LIST", x.told(5), 16);
    }

    private static void comesRefused() {
        LaidOutBoxes x = new LaidOutBoxes();
        due("2: NONE ahead of BAD", x.comes(-1, 0, 0, 0, 0, 0), NONE);
        due("2: parent -2", x.comes(BLOCK, -2, 0, 0, 0, 0), NONE);
        due("2: kind 10", x.comes(10, -1, 0, 0, 0, 0), BAD);
        due("2: kind -1", x.comes(-1, -1, 0, 0, 0, 0), BAD);
        x.comes(PAD, -1, 1, 1, 0, 0);
        due("2: BAD ahead of STATE", x.comes(BLOCK, -1, 100, 0, 0, 0), BAD);
        due("2: there is a TOP", x.comes(BLOCK, -1, 0, 0, 0, 0), STATE);
        x.comes(BLOCK, 0, 1, 1, 0, 0);
        due("2: a PAD takes one", x.comes(BLOCK, 0, 1, 1, 0, 0), STATE);
        due("2: a BLOCK takes none", x.comes(BLOCK, 1, 1, 1, 0, 0), STATE);
        due("2: nothing came by that", x.told(9), 2);
        for (int kind = TEXT; kind <= COLUMN; kind++) {
            LaidOutBoxes y = new LaidOutBoxes();
            y.comes(kind, -1, 1, 1, 1, 1);
            int took = 0;
            for (int i = 0; i < 12; i++) {
                took += y.comes(BLOCK, 0, 1, 1, 0, 0) > 0 ? 1 : 0;
            }
            due("2: how many a kind takes, " + kind, took, kind == TEXT ? 0 : kind < LAYERS ? 1 : 8);
        }
        LaidOutBoxes y = new LaidOutBoxes();
        y.comes(COLUMN, -1, 0, 0, 0, 0);
        for (int i = 1; i < 24; i++) {
            due("2: all 24", y.comes(ROW, (i - 1) / 8, 0, 0, 0, 0), i);
        }
        String before = Check.all(y);
        due("2: the 25th", y.comes(ROW, 23, 0, 0, 0, 0), FULL);
        due("2: STATE ahead of FULL", y.comes(ROW, 0, 0, 0, 0, 0), STATE);
        Check.sameText("2: nothing changed", Check.all(y), before);
        y.drops(23);
        due("2: FULL still", y.comes(ROW, 22, 0, 0, 0, 0), FULL);
    }

    private static void comesNumbers() {
        int[][] most = {{99, 99}, {12, 31}, {20, 20}, {99, 99, 99, 99}, {}, {}, {9, 9}, {2}, {4, 20}, {4, 20}};
        for (int kind = BLOCK; kind <= COLUMN; kind++) {
            for (int i = 0; i < 4; i++) {
                boolean has = i < most[kind].length;
                int[] n = {1, 1, 1, 1};
                n[i] = has ? most[kind][i] : 5000;
                if (kind == LIMIT) {
                    n[i | 1] = 99;
                }
                due("2: the most, kind " + kind, new LaidOutBoxes().comes(kind, -1, n[0], n[1], n[2], n[3]), 0);
                if (!has) {
                    continue;
                }
                n[i]++;
                due("2: above it, kind " + kind, new LaidOutBoxes().comes(kind, -1, n[0], n[1], n[2], n[3]), BAD);
                n[i] = kind == RATIO ? 1 : 0;
                n[i & 2] = kind == LIMIT ? 0 : n[i & 2];
                due("2: the least, kind " + kind, new LaidOutBoxes().comes(kind, -1, n[0], n[1], n[2], n[3]), 0);
                n[i]--;
                due("2: below it, kind " + kind, new LaidOutBoxes().comes(kind, -1, n[0], n[1], n[2], n[3]), BAD);
            }
        }
        due("2: b below a", new LaidOutBoxes().comes(LIMIT, -1, 5, 4, 1, 1), BAD);
        due("2: d below c", new LaidOutBoxes().comes(LIMIT, -1, 5, 5, 2, 1), BAD);
        due("2: alike", new LaidOutBoxes().comes(LIMIT, -1, 99, 99, 2, 2), 0);
    }

    private static void tellsEach() {
        LaidOutBoxes x = Check.tree("limit 1 2 3 4(block 5 6)");
        due("3: a", x.tells(0, 0, 2), 1);
        due("3: b", x.tells(0, 1, 99), 2);
        due("3: c", x.tells(0, 2, 0), 3);
        due("3: d", x.tells(0, 3, 0), 4);
        due("3: SHARE", x.tells(1, 4, 9), 0);
        due("3: LEAST alike", x.tells(1, 5, 0), 0);
        due("3: LEAST", x.tells(1, 5, 99), 0);
        due("3: MOST", x.tells(1, 6, 99), 99);
        due("3: all there", x.of(0, 3) * 1000 + x.of(0, 4) * 10 + x.of(0, 5) + x.of(0, 6), 2990);
        due("3: all there", x.of(1, 7) * 10000 + x.of(1, 8) * 100 + x.of(1, 9), 99999);
        due("3: of THE TOP", x.tells(0, 4, 3), 0);
        due("3: of THE TOP again", x.tells(0, 4, 0), 3);
    }

    private static void tellsRefused() {
        LaidOutBoxes x = Check.laidTree("limit 5 7 5 7(layers 1(centre))");
        String before = Check.all(x);
        int[][] calls = {{3, 0, 1, NONE}, {-1, 0, 1, NONE}, {24, 4, 1, NONE}, {0, 7, 1, NONE}, {0, -1, 1, NONE},
            {1, 1, 0, NONE}, {2, 0, 0, NONE}, {2, 3, -7, NONE}, {0, 0, 8, BAD}, {0, 0, -1, BAD}, {0, 1, 4, BAD},
            {0, 1, 100, BAD}, {0, 2, 8, BAD}, {0, 3, 4, BAD}, {1, 0, 3, BAD}, {1, 0, -1, BAD}, {2, 4, 10, BAD},
            {2, 4, -1, BAD}, {2, 5, -1, BAD}, {2, 5, 100, BAD}, {2, 6, 100, BAD}, {2, 6, -1, BAD}};
        for (int[] c : calls) {
            due("3: tells(" + c[0] + ", " + c[1] + ", " + c[2] + ")", x.tells(c[0], c[1], c[2]), c[3]);
        }
        Check.sameText("3: nothing changed", Check.all(x), before);
        x.tells(2, 5, 10);
        due("3: MOST below LEAST", x.tells(2, 6, 9), BAD);
        due("3: MOST alike", x.tells(2, 6, 10), 99);
        due("3: LEAST above MOST", x.tells(2, 5, 11), BAD);
    }

    private static void tellsMarks() {
        LaidOutBoxes x = Check.laidTree("row 0 0(pad 1 1(block 2 2),block 3 3)");
        x.tells(2, 0, 2);
        due("3: alike marks, too", x.told(4), 7);
        x.lays();
        x.tells(1, 4, 0);
        due("3: SHARE marks its PARENT, not itself", x.told(4), 1);
        x.lays();
        x.tells(3, 6, 99);
        due("3: MOST marks its PARENT, not itself", x.told(4), 1);
        x.lays();
        x.tells(0, 4, 5);
        x.tells(0, 5, 1);
        x.tells(0, 6, 50);
        due("3: THE TOP has no PARENT", x.told(4), 0);
    }

    private static void drops() {
        LaidOutBoxes x = Check.laidTree("row 0 0(pad 1 1(layers 0(block 1 1,block 2 2)),block 3 3)");
        due("4: no such", x.drops(6), NONE);
        due("4: below 0", x.drops(-1), NONE);
        due("4: far off", x.drops(24), NONE);
        due("4: a BOX and all in it", x.drops(1), 4);
        due("4: those there", x.told(3), 33);
        due("4: its PARENT is MARKED", x.told(4), 1);
        due("4: the CHILDREN left", x.of(0, 2) * 10 + x.child(0, 0), 15);
        due("4: gone", x.of(2, 0), NONE);
        due("4: gone once", x.drops(3), NONE);
        due("4: laid without it", x.lays() * 10 + x.at(5, 0), 10);
        x.tells(5, 0, 4);
        due("4: THE TOP", x.drops(0), 2);
        due("4: nothing is left", x.told(3) + x.told(4) + x.told(5), 0);
        due("4: no TOP", x.told(2), NO_SUCH);
        due("4: they came all the same", x.told(9), 6);
    }

    private static void moves() {
        LaidOutBoxes x = Check.laidTree("row 0 1(block 1 1,block 2 2,block 3 3)");
        due("5: THE TOP", x.moves(0, 0), NONE);
        due("5: no such", x.moves(4, 0), NONE);
        due("5: place 3", x.moves(1, 3), BAD);
        due("5: place -1", x.moves(1, -1), BAD);
        due("5: NONE ahead of BAD", x.moves(0, 9), NONE);
        due("5: unmarked", x.told(4), 0);
        due("5: to its own place", x.moves(2, 1), 1);
        due("5: that is no other order", x.told(4), 0);
        due("5: to the end", x.moves(1, 2), 0);
        due("5: order", x.child(0, 0) * 100 + x.child(0, 1) * 10 + x.child(0, 2), 231);
        due("5: MARKED", x.told(4) * 10 + x.told(5), 11);
        due("5: laid", x.lays() * 10 + x.told(8), 13);
        due("5: places", x.at(2, 0) * 100 + x.at(3, 0) * 10 + x.at(1, 0), 37);
        due("5: to the front", x.moves(1, 0), 2);
        due("5: order", x.child(0, 0) * 100 + x.child(0, 1) * 10 + x.child(0, 2), 123);
    }

    private static void screen() {
        LaidOutBoxes x = Check.laidTree("centre");
        due("6: as it was", x.screen(200, 1000), 100100);
        due("6: DIRTY and listed", x.told(4) * 10 + x.told(5), 11);
        due("6: as it was then", x.screen(0, 0), 201000);
        due("6: as it was then", x.screen(7, 200), 0);
        x.lays();
        Check.dueBounds(x, 0, 0, 7, 0, 200);
        String before = Check.all(x);
        int[][] bad = {{-1, 0}, {201, 0}, {0, -1}, {0, 201}, {0, 999}, {0, 1001}, {1000, 0}};
        for (int[] b : bad) {
            due("6: screen(" + b[0] + ", " + b[1] + ")", x.screen(b[0], b[1]), BAD);
        }
        Check.sameText("6: nothing changed", Check.all(x), before);
        x.asks(0, 0);
        x.screen(7, 200);
        due("6: alike is told, too", x.told(4) * 10 + x.told(5), 11);
        due("6: MEMOS stay", x.of(0, 12), 1);
    }

    private static void ofAndChild() {
        LaidOutBoxes x = Check.tree("row 0 7(limit 1 2 3 4*5(fit),block 8 9)");
        x.tells(1, 5, 6);
        x.tells(1, 6, 77);
        int[] wanted = {LIMIT, 0, 1, 1, 2, 3, 4, 5, 6, 77, 1, 0, 0, 0, 1};
        for (int what = 0; what < wanted.length; what++) {
            due("7: of(1, " + what + ")", x.of(1, what), wanted[what]);
        }
        due("7: no PARENT", x.of(0, 1), -1);
        due("7: how deep", x.of(0, 14) * 100 + x.of(2, 14) * 10 + x.of(3, 14), 21);
        due("7: on THE LIST", x.of(0, 11), 1);
        due("7: what 15", x.of(0, 15), NONE);
        due("7: what -1", x.of(0, -1), NONE);
        due("7: box 4", x.of(4, 0), NONE);
        due("7: box -1", x.of(-1, 0), NONE);
        due("7: MEMOS", x.of(1, 12) * 1000 + x.asks(1, 1) * 100 + x.of(1, 12) * 10 + x.of(2, 12), 100 + 20 + 2);
        x.asks(1, 0);
        due("7: both MEMOS", x.of(1, 12), 3);
        due("8: children", x.child(0, 0) * 100 + x.child(0, 1) * 10 + x.child(1, 0), 132);
        due("8: no such place", x.child(0, 2), NONE);
        due("8: below 0", x.child(0, -1), NONE);
        due("8: none", x.child(2, 0), NONE);
        due("8: no such box", x.child(9, 0), NONE);
        due("8: box -1", x.child(-1, 0), NONE);
    }

    private static void marking() {
        LaidOutBoxes x = Check.laidTree("row 0 0(ratio 1 1(centre(block 2 2)),block 5 5)");
        x.tells(3, 0, 3);
        due("7: stops at what was laid by JUST that", x.told(4) * 100 + x.told(5), 1204);
        due("12: laid from there", x.lays() * 10 + x.told(8), 20);
        x.asks(2, 0);
        x.tells(3, 0, 4);
        due("7: a MEMO lets it go on", x.told(4) * 100 + x.told(5), 1501);
        due("7: the MEMOS are no more", x.of(2, 12) + x.of(3, 12), 0);
        x.tells(3, 0, 5);
        due("7: MARKED all over again", x.told(4) * 100 + x.told(5), 1505);
        due("12: each once", x.lays() * 10 + x.told(8), 41);
        due("12: THE LIST is empty then", x.told(5), 0);
        LaidOutBoxes y = Check.laidTree("row 4 0(ratio 1 1(text 2 2),block 5 5)");
        due("7: BASED, whoever was asked", y.of(1, 13) * 100 + y.of(2, 13) * 10 + y.of(3, 13), 111);
        due("7: not who asked", y.of(0, 13), 0);
        y.tells(2, 0, 1);
        due("7: BASED lets it go on", y.told(4) * 100 + y.told(5), 701);
        y.tells(0, 0, 0);
        y.lays();
        due("7: a SKIP leaves BASED", y.of(1, 13) * 100 + y.of(2, 13) * 10 + y.of(3, 13), 1);
        LaidOutBoxes z = Check.laidTree("row 4 0(layers 0(block 9 9,text 2 2,text 3 3),column 0 0(block 1 1))");
        due("7: asked till one has a BASE", z.told(3), 127);
        int[] based = {0, 1, 1, 1, 0, 1, 1};
        for (int box = 0; box < based.length; box++) {
            due("7: BASED " + box, z.of(box, 13), based[box]);
        }
    }

    private static void letters() {
        LaidOutBoxes x = new LaidOutBoxes();
        due("9: 31", x.letter(31), BAD);
        due("9: 127", x.letter(127), BAD);
        due("9: -1", x.letter(-1), BAD);
        due("9: none came", x.told(10), 0);
        for (int i = 1; i <= 120; i++) {
            due("9: how many", x.letter(i % 2 == 0 ? 32 : 126), i);
        }
        due("9: the 121st", x.letter(65), FULL);
        due("9: BAD ahead of FULL", x.letter(0), BAD);
        due("9: 120 there", x.told(10), 120);
        due("10: all of them read", x.reads(-1), -100);
        due("10: none then", x.told(10), 0);
    }

    private static void readsTrees() {
        LaidOutBoxes x = new LaidOutBoxes();
        due("10: how many", Check.read(x, -1, "row 4 20(centre*3(fit(block 07 9)),column 0 0*0,text 12 31*9)"), 6);
        int[][] wanted = {{ROW, -1, 4, 20, 0}, {CENTRE, 0, 0, 0, 3}, {FIT, 1, 0, 0, 0}, {BLOCK, 2, 7, 9, 0},
            {COLUMN, 0, 0, 0, 0}, {TEXT, 0, 12, 31, 9}};
        for (int box = 0; box < wanted.length; box++) {
            int[] w = wanted[box];
            due("10: KIND " + box, x.of(box, 0), w[0]);
            due("10: PARENT " + box, x.of(box, 1), w[1]);
            due("10: a " + box, x.of(box, 3), w[2]);
            due("10: b " + box, x.of(box, 4), w[3]);
            due("10: SHARE " + box, x.of(box, 7), w[4]);
        }
        due("10: all DIRTY", x.told(4), 63);
        due("10: THE LIST", x.told(5), 1);
        due("10: letters", x.told(10), 0);
        x.lays();
        due("10: into a PARENT", Check.read(x, 4, "pad 1 1(layers 2)"), 2);
        due("10: the last CHILD", x.child(4, 0) * 10 + x.child(6, 0), 67);
        due("10: its PARENT is MARKED", x.told(4), 1 + 16 + 64 + 128);
        due("10: a FAULT behind a TREE that was whole", Check.read(x, 0, "row 0 0(fit"), -111);
        Check.read(x, 0, "fit*7(fit*6)");
        Check.read(x, 0, "fit(fit)");
        due("10: no SHARE of another TREE", x.of(8, 7) * 1000 + x.of(9, 7) * 100 + x.of(10, 7) + x.of(11, 7), 7600);
        LaidOutBoxes y = Check.laidTree("ratio 1 1(row 0 0)");
        y.asks(1, 0);
        Check.read(y, 1, "block 1 1*2");
        due("10: one BOX with its SHARE marks once", y.told(5), 1);
        y.lays();
        y.asks(1, 0);
        Check.read(y, 1, "pad 1 1(block 1 1)");
        due("10: each BOX comes as by comes()", y.told(5), 3);
    }

    private static void fault(String letters, int place) {
        LaidOutBoxes x = new LaidOutBoxes();
        due("10: FAULT of " + letters, Check.read(x, -1, letters), -100 - place);
        due("10: no BOX comes, no letters stay", x.told(9) + x.told(10), 0);
    }

    private static void readsFaults() {
        fault("", 0);
        fault("x", 0);
        fault(" row 0 0", 0);
        fault("bloc", 4);
        fault("blob 1 1", 3);
        fault("rat", 3);
        fault("rax", 2);
        fault("cob", 2);
        fault("lax", 2);
        fault("Row 0 0", 0);
        fault("row", 3);
        fault("row0 0", 3);
        fault("row ", 4);
        fault("row  0 0", 4);
        fault("row -1 0", 4);
        fault("row 0", 5);
        fault("row 0 0 ", 7);
        fault("row 0 0 0", 7);
        fault("row 5 0", 4);
        fault("row 5", 4);
        fault("row 41 0", 4);
        fault("row 410 0", 4);
        fault("row 004 0", 6);
        fault("row 0 21", 6);
        fault("row 0 200", 8);
        fault("text 13 0", 5);
        fault("text 0 32", 7);
        fault("block 100 1", 8);
        fault("pad 0 21", 6);
        fault("ratio 0 1", 6);
        fault("ratio 1 0", 8);
        fault("ratio 10 1", 6);
        fault("layers 3", 7);
        fault("limit 9 8 0 0", 8);
        fault("limit 9 10 5 4", 13);
        fault("limit 9 10 5 04", 13);
        fault("centre 1", 6);
        fault("fit*", 4);
        fault("fit*x", 4);
        fault("fit*12", 5);
        fault("fit(", 4);
        fault("fit()", 4);
        fault("fit(fit", 7);
        fault("fit(fit))", 8);
        fault("fit(fit)*1", 8);
        fault("fit(fit)(fit)", 8);
        fault("fit(fit,fit)", 8);
        fault("fit(fit,", 8);
        fault("fit,fit", 3);
        fault("fit)", 3);
        fault("fit(fit)x", 8);
        fault("block 1 1(block 1 1)", 10);
        fault("block 1 1()", 10);
        fault("text 1 1(x", 9);
        fault("layers 0(fit,,fit)", 13);
        fault("row 0 0(fit,fit,fit,fit,fit,fit,fit,fit,fit)", 40);
        fault("row 0 0(fit,fit,fit,fit,fit,fit,fit,fit,block 100", 40);
        LaidOutBoxes x = Check.tree("row 0 0(row 0 0,row 0 0)");
        for (int i = 3; i < 22; i++) {
            x.comes(BLOCK, i < 9 ? 0 : i < 16 ? 1 : 2, 1, 1, 0, 0);
        }
        due("10: 22 came", x.told(9), 22);
        due("10: no number left", Check.read(x, 2, "pad 1 1(layers 1(fit,fit))"), -117);
        due("10: no BOX came", x.told(9), 22);
        due("10: two numbers left", Check.read(x, 2, "pad 1 1(layers 1)"), 2);
        due("10: none left", Check.read(x, 1, "fit"), -100);
    }

    private static void readsRefused() {
        LaidOutBoxes x = new LaidOutBoxes();
        due("10: no such PARENT", Check.read(x, 0, "fit"), NONE);
        due("10: parent -2", x.reads(-2), NONE);
        due("10: the letters stay", x.told(10), 3);
        due("10: read then", x.reads(-1), 1);
        due("10: there is a TOP", Check.read(x, -1, "x"), STATE);
        due("10: the letters stay", x.told(10), 1);
        due("10: with a FAULT they don't", x.reads(0), -100);
        due("10: none", x.told(10), 0);
        Check.read(x, 0, "fit");
        due("10: its PARENT takes no more", Check.read(x, 0, ""), STATE);
        due("10: NONE, STATE ahead of the letters", Check.read(x, 5, ""), NONE);
    }

    private static void printed() {
        String[] trees = {"block 0 99", "text 12 31*9", "pad 20 0(centre)", "limit 1 20 3 99(fit)",
            "ratio 9 1*1(layers 2(row 4 20,column 0 0*5(block 10 1),fit))"};
        for (String tree : trees) {
            LaidOutBoxes x = Check.tree(tree);
            Check.sameText("11: printed", Check.print(x, 0), tree);
        }
        LaidOutBoxes x = Check.tree("row 0 0*0(block 01 1*0,pad 1 1(block 02 22*3))");
        x.tells(2, 5, 3);
        x.tells(2, 6, 4);
        Check.sameText("11: printed", Check.print(x, 0), "row 0 0(block 1 1,pad 1 1(block 2 22*3))");
        Check.sameText("11: a BOX in it", Check.print(x, 2), "pad 1 1(block 2 22*3)");
        due("11: how many", x.printed(3, -1), 12);
        due("11: the first", x.printed(3, 0), 'b');
        due("11: the last", x.printed(3, 11), '3');
        due("11: beyond", x.printed(3, 12), NONE);
        due("11: below -1", x.printed(3, -2), NONE);
        due("11: no such BOX", x.printed(4, -1), NONE);
        due("11: no such BOX", x.printed(-1, 0), NONE);
        LaidOutBoxes all = new LaidOutBoxes();
        all.comes(LIMIT, -1, 99, 99, 99, 99);
        for (int i = 1; i < 24; i++) {
            all.comes(LIMIT, i - 1, 99, 99, 99, 99);
            all.tells(i, 4, 9);
        }
        due("11: the longest there is", all.printed(0, -1), 17 + 23 * 21);
        due("11: its last", all.printed(0, 17 + 23 * 21 - 1), ')');
    }
}
