/** Edges of promises 18 to 30: what is answered in thought, and the WORK of it. */
final class ThoughtEdges {
    private static final int NONE = -1, BAD = -2, FULL = -4, NO_SUCH = -5, NOTHING = -11, CAST = -12;
    private static final long NO = LaidOutBoxes.NO;
    private static final int LOWEST = Integer.MIN_VALUE, HIGHEST = Integer.MAX_VALUE;
    /** 2 is LAID by JUST 5 by 5, 3 isn't. */
    private static final String JUST = "pad 0 0(limit 5 5 5 5(layers 0(block 1 1)))";
    private static final String TWO = "row 0 3(block 10 4,block 20 8)";

    private ThoughtEdges() {
    }

    static void all() {
        copies();
        tired();
        agrees();
        narrowest();
        tall();
        reached();
        bestShare();
        fits();
        plan();
        saved();
        likely();
        fractions();
        drawn();
        draws();
        mean();
        taken();
    }

    private static void due(String what, long got, long want) {
        Edge.due(what, got, want);
    }

    private static void copies() {
        Edge.of(21, "In thought, on a copy of all as it is now, THE LIST and MEMOS too;");
        LaidOutBoxes x = Check.laidTree(JUST);
        due("without MEMOS", x.reached(3, 0), 12);
        x.asks(2, 1);
        due("with a MEMO", x.reached(3, 0), 15);
        due("it is there still", x.of(2, 12), 2);
        LaidOutBoxes y = Check.laidTree("layers 0(ratio 1 1(centre(block 1 1)),block 9 9)");
        y.tells(3, 0, 5);
        due("THE LIST", y.told(5), 4);
        y.bestShare(0, 0);
        due("ten times two VISITS by THE LIST", y.told(12), 10 * (5 + 2));
        due("THE LIST is as it was", y.told(5) * 100 + y.told(4), 412);
        Edge.of(17, "WORK: how many BOXES there are is counted for each copy, and its VISITS and SKIPS.");
        LaidOutBoxes z = Check.laidTree(TWO);
        due("none yet", z.told(12), 0);
        z.screen(100, 1000);
        z.lays();
        due("lays() is none", z.told(12), 0);
        z.tall(50);
        due("three BOXES, a VISIT, two SKIPS", z.told(12), 6);
        z.drops(1);
        z.tall(50);
        due("those there alone", z.told(12), 6 + 4);
        Edge.of(17, "Copies in thought, each of which counts how many BOXES there are, and each time it is LAID OUT"
                + " its VISITS and SKIPS:");
        LaidOutBoxes none = new LaidOutBoxes();
        none.agrees();
        none.saved();
        none.likely(2, 0);
        none.drawn(20);
        due("of nothing nothing", none.told(12), 0);
    }

    /** A laid TREE of one BLOCK, with so much WORK done, in less than 512 calls: 39999 or 40000. */
    private static LaidOutBoxes worked(int work) {
        LaidOutBoxes x = new LaidOutBoxes();
        x.image();
        Check.read(x, -1, "row 0 0(fit,fit,fit,fit,fit,fit,fit,fit)");
        for (int i = 1; i <= 8; i++) {
            x.tells(i, 5, 99);
        }
        x.lays();
        for (int i = 0; i < 11; i++) {
            due("nothing is wide enough", x.narrowest(), NO_SUCH);
        }
        due("201 copies of 9, with a VISIT and 8 SKIPS each", x.told(12), 11 * 201 * 18);
        x.undo();
        x.comes(0, -1, 7, 7, 0, 0);
        x.lays();
        for (int i = 0; i < 4; i++) {
            x.drawn(20);
        }
        if (work == 39999) {
            x.agrees();
            x.drawn(19);
        } else {
            x.drawn(20);
            x.tall(9);
        }
        x.plan(0, 1);
        due("WORK", x.told(12), work);
        return x;
    }

    private static long call(LaidOutBoxes x, int which) {
        switch (which) {
            case 0: return x.agrees();
            case 1: return x.narrowest();
            case 2: return x.tall(9);
            case 3: return x.reached(0, 0);
            case 4: return x.bestShare(0, 1);
            case 5: return x.fits(0, 0);
            case 6: return x.saved();
            case 7: return x.drawn(1);
            default: return x.likely(2, 0);
        }
    }

    private static void tired() {
        Edge.of(18, "As a call begins at 40000 or more of it: FULL.");
        int[] answers = {1, 0, 7, 1, 7, (1 << 21) - 1, 0, 0, 1};
        int[] works = {3, 2, 2, 2, 10, 42, 2, 2, 3};
        LaidOutBoxes full = worked(40000);
        String before = Check.all(full);
        for (int i = 0; i < answers.length; i++) {
            LaidOutBoxes x = worked(39999);
            due("call " + i + " begins at 39999", call(x, i), answers[i]);
            due("and goes on beyond", x.told(12), 39999 + works[i]);
            due("call " + i + " begins beyond", call(x, i), i == 8 ? NO : FULL);
            due("call " + i + " begins at 40000", call(full, i), i == 8 ? NO : FULL);
        }
        Check.sameText("nothing changed", Check.all(full), before);
        due("BAD ahead of FULL", full.tall(-1), BAD);
        due("BAD ahead of FULL", full.tall(201), BAD);
        due("BAD ahead of FULL", full.drawn(0), BAD);
        due("BAD ahead of FULL", full.drawn(21), BAD);
        due("NONE ahead of FULL", full.reached(1, 0), NONE);
        due("NONE ahead of FULL", full.reached(0, 2), NONE);
        due("NONE ahead of FULL", full.bestShare(1, 0), NONE);
        due("NONE ahead of FULL", full.bestShare(0, 2), NONE);
        due("NONE ahead of FULL", full.fits(1, 0), NONE);
        due("NONE ahead of FULL", full.fits(0, 2), NONE);
        due("other calls go on", full.mean(0) * 100 + full.plan(0, 9) * 10 + full.seed(3) / HIGHEST, 720);
        full.drops(0);
        due("FULL ahead of NO_SUCH", full.narrowest(), FULL);
        due("FULL ahead of NO_SUCH", full.tall(9), FULL);
    }

    private static void agrees() {
        Edge.of(18, "AGREES: LAID OUT, each BOX has place, SIZE, OVER as another copy has in which all are DIRTY"
                + " without MEMOS and THE TOP alone is on THE LIST.");
        due("nothing there", new LaidOutBoxes().agrees(), 1);
        due("never LAID", Check.tree(TWO).agrees(), 1);
        due("LAID", Check.laidTree(TWO).agrees(), 1);
        // 2 was LAID by JUST that, before THE TOP asked for its BASE: it is laid behind THE TOP, that has its old BASE
        LaidOutBoxes x = Check.onScreen(100, 20, "row 0 0(ratio 1 1(row 4 0(block 1 5)),text 1 0)");
        x.tells(0, 0, 4);
        due("with a 4 told", x.agrees(), 1);
        x.tells(3, 1, 9);
        due("THE LIST", x.told(5), 5);
        int before = x.told(12);
        due("it agrees not", x.agrees(), 0);
        due("WORK", x.told(12) - before, 5 + 3 + 2 + 5 + 5);
        x.lays();
        due("laid by the old BASE", x.at(4, 1), 4);
        due("nor then", x.agrees(), 0);
        x.tells(0, 0, 4);
        x.lays();
        due("laid by the new one", x.at(4, 1), 8);
        due("it agrees", x.agrees(), 1);
        agreesButForTheTop();
        LaidOutBoxes asked = Check.laidTree("fit(text 3 3)");
        asked.tells(1, 0, 5);
        due("without MEMOS, also those that are gone already", asked.agrees(), 1);
        Edge.of(18, "agrees() two, each LAID OUT once (the second one anew);");
        LaidOutBoxes y = Check.laidTree(TWO);
        y.agrees();
        due("3 and 0, 3 and 3", y.told(12), 9);
        y.tells(1, 0, 11);
        y.agrees();
        due("3 and 2 and 1, 3 and 3", y.told(12), 9 + 12);
        Edge.of(18, "AGREES: 1, 0. FULL.");
        due("1", y.agrees(), 1);
    }

    /** A BASE below all that there is makes THE TOP higher, and moves nobody in it. */
    private static void agreesButForTheTop() {
        LaidOutBoxes x = Check.tree("row 0 0(ratio 1 1(row 4 0(pad 0 3(text 1 0))))");
        x.tells(1, 6, 5);
        x.lays();
        x.tells(0, 0, 4);
        x.tells(3, 1, 15);
        due("HIGH of THE TOP alone is otherwise", x.agrees(), 0);
        x.lays();
        due("HIGH", x.at(0, 5), 5);
        x.tells(0, 0, 4);
        x.lays();
        due("HIGH anew", x.at(0, 5), 16);
        due("it agrees", x.agrees(), 1);
    }

    private static void narrowest() {
        Edge.of(19, "NARROWEST: the least WIDE (0 .. 200) of THE SCREEN by which, LAID OUT, no BOX is OVER (NO_SUCH:"
                + " none).");
        due("0", Check.tree("row 0 0(fit)").narrowest(), 0);
        due("1", Check.tree("row 0 0(block 1 1)").narrowest(), 1);
        due("within a PAD", Check.tree("pad 5 0(row 0 0(block 10 1))").narrowest(), 20);
        LaidOutBoxes x = Check.tree("row 0 2(fit,fit)");
        x.tells(1, 5, 99);
        x.tells(2, 5, 99);
        due("200", x.narrowest(), 200);
        x.tells(0, 1, 3);
        due("201 is too WIDE", x.narrowest(), NO_SUCH);
        due("OVER by HIGH", Check.tree("column 0 0(block 1 60,block 1 60)").narrowest(), NO_SUCH);
        LaidOutBoxes text = Check.tree("column 0 0(text 5 0)");
        text.screen(0, 2);
        due("by the HIGH there is", text.narrowest(), 24);
        due("THE SCREEN stays", text.told(0) * 1000 + text.told(1), 2);
        Edge.of(19, "narrowest() one for each WIDE from 0 on till it is found (without THE TOP none);");
        LaidOutBoxes y = Check.laidTree("block 1 1");
        due("found at 0", y.narrowest(), 0);
        due("one copy", y.told(12), 2);
        LaidOutBoxes z = Check.laidTree("column 0 0(block 1 99,block 1 99)");
        due("not found", z.narrowest(), NO_SUCH);
        due("201 copies, all VISITS but by a WIDE of 100", z.told(12), 201 * 6);
        Edge.of(19, "NARROWEST; NO_SUCH (also without TOP). FULL.");
        LaidOutBoxes none = new LaidOutBoxes();
        due("without TOP", none.narrowest(), NO_SUCH);
        due("no WORK", none.told(12), 0);
        z.drops(0);
        due("without TOP", z.narrowest(), NO_SUCH);
    }

    private static void tall() {
        Edge.of(20, "TALL: HIGH of THE TOP by another WIDE and a HIGH of NO END.");
        LaidOutBoxes x = Check.tree("text 5 0");
        x.screen(100, 1);
        due("0 WIDE", x.tall(0), 10);
        due("23 WIDE", x.tall(23), 4);
        due("24 WIDE", x.tall(24), 2);
        due("THE SCREEN stays", x.told(0) * 1000 + x.told(1), 100001);
        LaidOutBoxes high = Check.tree("column 0 20(column 0 20)");
        for (int i = 0; i < 8; i++) {
            high.comes(0, 1, 1, 99, 0, 0);
        }
        due("932", high.tall(9), 932);
        high.comes(0, 0, 1, 48, 0, 0);
        due("1000", high.tall(9), 1000);
        high.comes(0, 0, 1, 99, 0, 0);
        due("NO END counts as 1000", high.tall(9), 1000);
        due("a CENTRE is as HIGH as its CHILD then", Check.tree("centre(block 3 7)").tall(9), 7);
        Edge.of(20, "tall() one (without THE TOP none);");
        LaidOutBoxes y = Check.laidTree("pad 1 1(block 1 1)");
        y.tall(100);
        due("two BOXES, two VISITS", y.told(12), 4);
        LaidOutBoxes none = new LaidOutBoxes();
        none.tall(100);
        due("none", none.told(12), 0);
        Edge.of(20, "TALL by WIDE v (0 .. 200); NO_SUCH: no TOP. BAD; FULL.");
        for (int v : new int[] {-1, 201, 1000, LOWEST, HIGHEST}) {
            due("v " + v, y.tall(v), BAD);
            due("v " + v + " ahead of no TOP", none.tall(v), BAD);
        }
        due("the least v", y.tall(0), 3);
        due("the greatest v", y.tall(200), 3);
        due("no TOP", none.tall(0), NO_SUCH);
    }

    private static void reached() {
        Edge.of(21, "REACHED: LAID OUT, then the BOX is MARKED: whom LAYING OUT VISITS then; its SKIPS.");
        LaidOutBoxes x = Check.laidTree("row 0 0(pad 1 1(block 2 2),ratio 1 1(centre(block 1 1)),block 3 3)");
        int[][] reached = {{0, 1, 3}, {1, 3, 3}, {2, 7, 2}, {3, 9, 3}, {4, 16, 1}, {5, 48, 0}, {6, 65, 2}};
        for (int[] r : reached) {
            due("who, by " + r[0], x.reached(r[0], 0), r[1]);
            due("SKIPS, by " + r[0], x.reached(r[0], 1), r[2]);
        }
        x.tells(2, 0, 9);
        x.screen(50, 50);
        due("LAID OUT first: those VISITS don't count", x.reached(5, 0), 48);
        Edge.of(21, "reached() one, LAID OUT twice;");
        LaidOutBoxes y = Check.laidTree(TWO);
        y.reached(1, 0);
        due("3 and 0, 2 and 1", y.told(12), 6);
        LaidOutBoxes z = Check.tree(TWO);
        z.reached(1, 1);
        due("3 and 3, 2 and 1", z.told(12), 9);
        Edge.of(21, "REACHED: who (what 0; bits), SKIPS (1). NONE; FULL.");
        for (int what : new int[] {-1, 2, LOWEST, HIGHEST}) {
            due("what " + what, y.reached(1, what), NONE);
        }
        for (int box : new int[] {-1, 3, 24, 32, LOWEST, HIGHEST}) {
            due("box " + box, y.reached(box, 0), NONE);
        }
        LaidOutBoxes deep = new LaidOutBoxes();
        for (int i = 0; i < 24; i++) {
            deep.comes(2, i - 1, 1, 1, 0, 0);
        }
        due("all 24", deep.reached(23, 0), 0xFFFFFF);
    }

    private static void bestShare() {
        Edge.of(22, "BEST SHARE: the SHARE of a BOX by which, LAID OUT, its WIDE is most, of several the least.");
        LaidOutBoxes x = Check.tree("row 0 0(block 10 1,block 10 1*1)");
        due("the most of all", x.bestShare(2, 0) * 100 + x.bestShare(2, 1), 190);
        due("9", x.bestShare(1, 0) * 100 + x.bestShare(1, 1), 990);
        x.screen(10, 10);
        due("0, for it is as WIDE with none", x.bestShare(1, 0) * 100 + x.bestShare(1, 1), 10);
        x.screen(0, 0);
        due("0 WIDE", x.bestShare(2, 0) * 100 + x.bestShare(2, 1), 10);
        due("THE TOP", x.bestShare(0, 0) * 100 + x.bestShare(0, 1), 0);
        due("its SHARE stays", x.of(2, 7), 1);
        Edge.of(22, "bestShare() ten;");
        LaidOutBoxes y = Check.laidTree(TWO);
        y.bestShare(0, 0);
        due("THE TOP's marks nobody", y.told(12), 30);
        y.bestShare(1, 1);
        due("with 0 a VISIT and two SKIPS, else two and one", y.told(12), 30 + 30 + 30);
        Edge.of(22, "BEST SHARE (what 0), WIDE then (1). NONE; FULL.");
        for (int what : new int[] {-1, 2, LOWEST, HIGHEST}) {
            due("what " + what, y.bestShare(1, what), NONE);
        }
        for (int box : new int[] {-1, 3, 24, 32, LOWEST, HIGHEST}) {
            due("box " + box, y.bestShare(box, 0), NONE);
        }
    }

    private static void fits() {
        Edge.of(23, "FITS: which of 0 .. 20 as a number of a BOX (of those it may have) leave nothing OVER.");
        LaidOutBoxes x = Check.tree("row 0 0(block 90 1,block 1 1)");
        int[][] screens = {{90, 1}, {91, 3}, {109, (1 << 20) - 1}, {110, (1 << 21) - 1}, {111, (1 << 21) - 1}, {89, 0}};
        for (int[] s : screens) {
            x.screen(s[0], 9);
            due("on a SCREEN of " + s[0], x.fits(2, 0), s[1]);
        }
        x.screen(100, 9);
        due("its a stays", x.of(2, 3), 1);
        String[] trees = {"block 1 1", "text 1 1", "pad 1 1", "limit 9 9 9 9", "ratio 1 1", "layers 1", "row 1 1", "column 1 1"};
        int all = (1 << 21) - 1;
        int[][] may = {{all, all}, {(1 << 13) - 1, all}, {all, all}, {1023, all - 511, 1023, all - 511}, {1022, 1022}, {7},
            {31, all}, {31, all}};
        for (int i = 0; i < trees.length; i++) {
            for (int number = 0; number < may[i].length; number++) {
                due(trees[i] + ", number " + number, Check.tree(trees[i]).fits(0, number), may[i][number]);
            }
            for (int number = may[i].length; number <= 6; number++) {
                due(trees[i] + ", number " + number, Check.tree(trees[i]).fits(0, number), NONE);
            }
        }
        Edge.of(23, "fits() one for each number it may have;");
        LaidOutBoxes y = Check.laidTree("limit 20 50 21 50");
        due("from 20 on", y.fits(0, 1), 1 << 20);
        due("one copy", y.told(12), 2);
        due("from 21 on", y.fits(0, 3), 0);
        due("no copy", y.told(12), 2);
        Edge.of(23, "FITS of a number (0 a .. 3 d): bits 0 .. 20. NONE: box, number (also one its KIND hasn't); FULL.");
        for (int number : new int[] {-1, 4, 5, 6, 7, LOWEST, HIGHEST}) {
            due("number " + number, y.fits(0, number), NONE);
        }
        for (int box : new int[] {-1, 1, 24, 32, LOWEST, HIGHEST}) {
            due("box " + box, y.fits(box, 0), NONE);
        }
        due("a CENTRE has none", Check.tree("centre").fits(0, 0), NONE);
    }

    private static void plan() {
        Edge.of(24, "A row comes to the PLAN: how many there are (box -1: it is empty then, 0, whatever the other"
                + " is).");
        LaidOutBoxes x = Check.tree("row 0 0(fit,fit)");
        due("an empty one made empty", x.plan(-1, 0), 0);
        due("the first", x.plan(0, 0), 1);
        due("alike", x.plan(0, 0), 2);
        due("empty then", x.plan(-1, HIGHEST), 0);
        due("no rows", x.told(11), 0);
        due("the first again", x.plan(1, 9), 1);
        due("empty then", x.plan(-1, -1), 0);
        Edge.of(24, "NONE: box; BAD: v (0 .. 9); FULL: 8.");
        for (int box : new int[] {-2, 3, 24, 32, LOWEST, HIGHEST}) {
            due("box " + box, x.plan(box, 0), NONE);
            due("box " + box + " ahead of BAD", x.plan(box, 10), NONE);
        }
        for (int v : new int[] {-1, 10, LOWEST, HIGHEST}) {
            due("v " + v, x.plan(1, v), BAD);
        }
        for (int i = 1; i <= 8; i++) {
            due("row " + i, x.plan(i % 3, 10 - i), i);
        }
        due("the ninth", x.plan(0, 0), FULL);
        due("NONE ahead of FULL", x.plan(3, 0), NONE);
        due("BAD ahead of FULL", x.plan(0, 10), BAD);
        due("8 rows", x.told(11), 8);
        x.drops(2);
        due("8 rows, though a BOX is gone", x.told(11), 8);
        due("that BOX", x.plan(2, 0), NONE);
        due("empty then", x.plan(-1, 0), 0);
    }

    private static void saved() {
        Edge.of(25, "SAVED: rows of the PLAN (a BOX's SHARE becomes a number; 8 at most; those of BOXES that are not"
                + " there are passed over):");
        LaidOutBoxes x = Check.laidTree(TWO);
        for (int i = 0; i < 8; i++) {
            x.plan(1, i % 2 == 0 ? 9 : 1);
        }
        due("eight times THE TOP and 1; but 1 is as WIDE whatever its SHARE is", x.saved(), 2 + 7 - 2);
        x.drops(1);
        due("all of them passed over", x.saved(), 0);
        due("SHARES stay", x.of(2, 7), 0);
        Edge.of(25, "LAID OUT, then behind each row, all VISITS but the first LAYING OUT's, less those of LAYING OUT"
                + " once behind all of them.");
        LaidOutBoxes y = Check.tree(TWO);
        due("an empty PLAN", y.saved(), 0);
        y.plan(0, 5);
        due("THE TOP's SHARE marks nobody", y.saved(), 0);
        y.plan(1, 1);
        due("a row alone saves nothing", y.saved(), 0);
        y.plan(2, 2);
        due("2 and 3, less 3", y.saved(), 2);
        y.plan(2, 0);
        due("2 and 3 and 3, less 2", y.saved(), 6);
        LaidOutBoxes least = Check.laidTree(TWO);
        least.tells(1, 5, 1);
        least.plan(1, 1);
        due("SHARES alone become a number", least.saved(), 0);
        Edge.of(25, "saved() two, each LAID OUT ahead of the PLAN, then the one behind each row whose BOX is there,"
                + " the other once behind all;");
        LaidOutBoxes z = Check.laidTree(TWO);
        z.saved();
        due("two copies", z.told(12), 6);
        z.plan(1, 1);
        z.plan(2, 2);
        z.saved();
        due("and 2 and 1, 3, 3", z.told(12), 6 + 6 + 3 + 3 + 3);
        z.drops(1);
        z.saved();
        due("of two BOXES, 2 ahead of it, each; 2, 2", z.told(12), 21 + 4 + 4 + 2 + 2);
        Edge.of(25, "SAVED. FULL.");
        due("nothing there", new LaidOutBoxes().saved(), 0);
    }

    private static void likely() {
        Edge.of(26, "LIKELY: each of the first 6 BLOCKS (by numbers), by itself, is 0 by 0 (its a, then its b is told"
                + " so on a copy) with odds 1 in t: how likely nothing is OVER: a fraction.");
        LaidOutBoxes six = Check.tree("row 0 0(block 1 1,block 1 1,block 1 1,block 1 1,block 1 1,block 1 1)");
        six.screen(0, 9);
        due("all six, above", six.likely(20, 0), 1);
        due("all six, below", six.likely(20, 1), 64000000);
        six.comes(0, 0, 1, 1, 0, 0);
        due("the seventh always is OVER", six.likely(20, 0) * 10 + six.likely(20, 1), 1);
        due("its bits stay", six.of(1, 3) * 10 + six.of(1, 4), 11);
        six.drops(1);
        due("the first six of those there", six.likely(2, 0) * 100 + six.likely(2, 1), 164);
        LaidOutBoxes high = Check.tree("column 0 0(block 9 9,block 9 9)");
        high.screen(9, 9);
        due("one of two at least, b", high.likely(2, 0) * 10 + high.likely(2, 1), 34);
        due("of no BLOCKS", Check.tree("row 0 0(text 1 1)").likely(2, 0), 1);
        LaidOutBoxes over = Check.tree("row 0 0(text 1 1)");
        over.screen(0, 9);
        due("of no BLOCKS, but OVER", over.likely(20, 0) * 10 + over.likely(20, 1), 1);
        Edge.of(26, "likely() one for each set of those BLOCKS (none of them, too);");
        LaidOutBoxes x = Check.laidTree("centre");
        x.likely(2, 0);
        due("one copy", x.told(12), 1);
        LaidOutBoxes y = Check.laidTree("block 1 1");
        y.likely(2, 0);
        due("two copies, a VISIT", y.told(12), 3);
        LaidOutBoxes z = Check.laidTree("layers 0(block 1 1,block 1 1,block 1 1,block 1 1,block 1 1,block 1 1,block 1 1)");
        z.likely(2, 0);
        // with some of them THE TOP and these are VISITS, the others SKIPS
        due("64 copies of 8, all but one with 8 VISITS and SKIPS", z.told(12), 64 * 8 + 63 * 8);
        Edge.of(26, "LIKELY (t 2 .. 20); part 0 above, 1 below the line. NO: t, part, FULL.");
        for (int t : new int[] {-1, 0, 1, 21, LOWEST, HIGHEST}) {
            due("t " + t, y.likely(t, 0), NO);
        }
        for (int part : new int[] {-1, 2, LOWEST, HIGHEST}) {
            due("part " + part, y.likely(2, part), NO);
        }
        due("t 2", y.likely(2, 0), 1);
        due("t 20", y.likely(20, 1), 1);
    }

    private static void fractions() {
        Edge.of(26, "Fractions in least terms.");
        LaidOutBoxes x = Check.tree("row 0 0(block 60 5,block 60 5)");
        int[][] wanted = {{2, 3, 4}, {3, 5, 9}, {4, 7, 16}, {10, 19, 100}, {20, 39, 400}};
        for (int[] w : wanted) {
            due("above, t " + w[0], x.likely(w[0], 0), w[1]);
            due("below, t " + w[0], x.likely(w[0], 1), w[2]);
        }
        x.screen(60, 9);
        x.tells(1, 0, 61);
        // 1 must be 0 by 0, whatever 2 is: t of t t
        due("above", x.likely(6, 0), 1);
        due("below", x.likely(6, 1), 6);
        x.tells(1, 0, 0);
        due("always, above", x.likely(7, 0), 1);
        due("always, below", x.likely(7, 1), 1);
        x.screen(0, 9);
        x.tells(1, 5, 1);
        due("never, above", x.likely(7, 0), 0);
        due("never, below", x.likely(7, 1), 1);
    }

    private static int draw(int[] seed) {
        long next = (seed[0] & 0xFFFFFFFFL) * 1103515245L + 12345L;
        seed[0] = (int) next;
        return (int) ((next & 0xFFFFFFFFL) >> 16) % 101;
    }

    private static void drawn() {
        Edge.of(27, "DRAWN: n times THE SCREEN's WIDE is a DRAW below 101 on a copy: all OVER together (SEED goes on"
                + " by it).");
        // 100 WIDE in all, so that OVER tells each WIDE from 0 to 100
        LaidOutBoxes x = Check.laidTree("row 0 0(block 99 1,block 1 1)");
        int[] seed = {1};
        for (int n = 1; n <= 20; n++) {
            int over = 0;
            for (int i = 0; i < n; i++) {
                over += 100 - draw(seed);
            }
            due("n " + n, x.drawn(n), over);
            due("SEED behind n " + n, x.seed(seed[0]), seed[0]);
        }
        due("THE SCREEN stays", x.told(0), 100);
        LaidOutBoxes two = Check.tree("row 0 0(column 0 0(block 50 60,block 50 60),block 51 1)");
        due("a ROW and a COLUMN OVER together", two.drawn(1), 101 - 72 + 20);
        two.comes(9, 0, 0, 20, 0, 0);
        two.comes(0, 5, 0, 50, 0, 0);
        two.comes(0, 5, 0, 50, 0, 0);
        two.screen(100, 1);
        two.seed(1);
        due("a ROW and two COLUMNS", two.drawn(1), 101 - 72 + 119 + 119);
        Edge.of(27, "drawn() one for each DRAW.");
        LaidOutBoxes one = Check.laidTree("block 1 1");
        one.drawn(20);
        due("a BOX and a VISIT each", one.told(12), 40);
        LaidOutBoxes none = new LaidOutBoxes();
        due("nothing there", none.drawn(20), 0);
        int[] twenty = {1};
        for (int i = 0; i < 20; i++) {
            draw(twenty);
        }
        due("SEED goes on all the same", none.seed(0), twenty[0]);
        Edge.of(27, "DRAWN (n 1 .. 20). BAD; FULL.");
        for (int n : new int[] {0, -1, 21, LOWEST, HIGHEST}) {
            due("n " + n, x.drawn(n), BAD);
            due("SEED stays", x.seed(seed[0]), seed[0]);
        }
    }

    private static void draws() {
        Edge.of(27, "A DRAW below m: SEED becomes SEED times 1103515245 plus 12345 (an int), its upper 16 bits (no"
                + " sign), modulo m.");
        LaidOutBoxes x = Check.laidTree("row 0 0(block 99 1,block 1 1)");
        for (int first : new int[] {0, 1, -1, 2, LOWEST, HIGHEST, LOWEST + 1, 1 << 30, 65536, -65536, 12345}) {
            int[] seed = {first};
            x.seed(first);
            for (int i = 0; i < 8; i++) {
                due("from " + first, x.drawn(1), 100 - draw(seed));
            }
            due("SEED from " + first, x.seed(first), seed[0]);
        }
        Edge.of(28, "SEED 1 at first.");
        due("at first", new LaidOutBoxes().seed(9), 1);
        Edge.of(28, "SEED becomes v: what it was.");
        LaidOutBoxes y = new LaidOutBoxes();
        int was = 1;
        for (int v : new int[] {0, -1, LOWEST, HIGHEST, 1, 1}) {
            due("what it was", y.seed(v), was);
            was = v;
        }
    }

    private static void mean() {
        Edge.of(29, "MEAN: WIDE of all BOXES there, as LAID last, by how many they are: a fraction in least terms.");
        LaidOutBoxes x = Check.tree("layers 0(block 8 1,block 6 1,block 4 1)");
        due("never LAID, above", x.mean(0), 0);
        due("never LAID, below", x.mean(1), 1);
        x.lays();
        due("26 by 4, above", x.mean(0), 13);
        due("26 by 4, below", x.mean(1), 2);
        x.tells(1, 0, 99);
        x.comes(0, 0, 9, 9, 0, 0);
        due("26 by 5, above", x.mean(0), 26);
        due("26 by 5, below", x.mean(1), 5);
        x.drops(4);
        x.drops(2);
        due("20 by 3, above", x.mean(0), 20);
        due("20 by 3, below", x.mean(1), 3);
        x.drops(1);
        due("12 by 2", x.mean(0) * 10 + x.mean(1), 61);
        LaidOutBoxes wide = new LaidOutBoxes();
        for (int i = 0; i < 24; i++) {
            wide.comes(6, i - 1, 1, 1, 0, 0);
        }
        wide.screen(200, 200);
        wide.lays();
        due("24 of 200", wide.mean(0) * 10 + wide.mean(1), 2001);
        Edge.of(29, "MEAN; part likewise. NO: part, no BOXES.");
        for (int part : new int[] {-1, 2, LOWEST, HIGHEST}) {
            due("part " + part, x.mean(part), NO);
            due("part " + part + ", no BOXES", new LaidOutBoxes().mean(part), NO);
        }
        due("no BOXES", new LaidOutBoxes().mean(0), NO);
        due("no BOXES", new LaidOutBoxes().mean(1), NO);
        x.drops(0);
        due("no BOXES any more", x.mean(0), NO);
    }

    private static void taken() {
        Edge.of(30, "A BOX taken for one of KIND k (0 .. 9; a COLUMN is a ROW, too, a FIT a CENTRE, a LIMIT a PAD):"
                + " its KIND.");
        for (int kind = 0; kind < 10; kind++) {
            LaidOutBoxes x = new LaidOutBoxes();
            x.comes(kind, -1, 1, 1, 1, 1);
            for (int k = 0; k < 10; k++) {
                boolean is = k == kind || kind * 10 + k == 98 || kind * 10 + k == 54 || kind * 10 + k == 32;
                due(kind + " taken for " + k, x.taken(0, k), is ? kind : CAST);
            }
        }
        Edge.of(30, "BAD: k; NOTHING: no such BOX; CAST.");
        LaidOutBoxes x = Check.tree("pad 1 1(block 1 1)");
        x.drops(1);
        for (int box : new int[] {-1, 1, 2, 24, 32, LOWEST, HIGHEST}) {
            due("box " + box, x.taken(box, 0), NOTHING);
            due("BAD ahead of NOTHING, box " + box, x.taken(box, 10), BAD);
        }
        for (int k : new int[] {-1, 10, LOWEST, HIGHEST}) {
            due("k " + k, x.taken(0, k), BAD);
        }
        due("a PAD is no LIMIT", x.taken(0, 3), CAST);
    }
}
