/** Promises 18 to 30: what is answered in thought, and the WORK of it. */
public final class ThoughtTest {
    private static final int NONE = -1, BAD = -2, FULL = -4, NO_SUCH = -5, NOTHING = -11, CAST = -12;
    private static final long NO = LaidOutBoxes.NO;
    private static final String TWO = "row 0 3(block 10 4,block 20 8)";

    public static void main(String[] args) {
        agrees();
        narrowest();
        tall();
        reached();
        bestShare();
        fits();
        plan();
        saved();
        likely();
        drawnAndSeed();
        mean();
        taken();
        nothingChanges();
        tooMuchWork();
        Check.end("promises 18 to 30");
    }

    private static void due(String what, long got, long want) {
        Check.due(what, got, want);
    }

    private static void agrees() {
        due("18: nothing there", new LaidOutBoxes().agrees(), 1);
        LaidOutBoxes x = Check.laidTree(TWO);
        due("18: agrees", x.agrees(), 1);
        due("18: two copies, three VISITS", x.told(12), 9);
        x.tells(1, 0, 50);
        due("18: agrees", x.agrees(), 1);
        due("18: and two VISITS and a SKIP", x.told(12), 9 + 9 + 3);
        due("18: not LAID OUT by it", x.at(1, 4) * 10 + x.told(5), 101);
        LaidOutBoxes y = Check.laidTree("row 0 0(ratio 1 1(fit(text 3 3)),row 4 0(pad 1 1(text 2 2),block 1 9))");
        for (int box = 0; box < 8; box++) {
            for (int v = 0; v < 4; v++) {
                y.tells(box, v % 2, v);
                y.asks(box, v % 2);
                due("18: agrees", y.agrees(), 1);
                if (v == 2) {
                    y.lays();
                }
            }
        }
    }

    private static void narrowest() {
        LaidOutBoxes none = new LaidOutBoxes();
        due("19: without TOP", none.narrowest() * 10 + none.told(12), NO_SUCH * 10);
        LaidOutBoxes x = Check.laidTree(TWO);
        due("19: narrowest", x.narrowest(), 33);
        due("19: 34 copies, each with a VISIT and two SKIPS", x.told(12), 34 * 6);
        x.tells(1, 5, 99);
        x.tells(2, 5, 98);
        due("19: 200", x.narrowest(), 200);
        x.tells(2, 5, 99);
        due("19: none", x.narrowest(), NO_SUCH);
        due("19: 0", Check.tree("block 50 50").narrowest(), 0);
        LaidOutBoxes column = Check.tree("column 0 0(text 5 0)");
        column.screen(100, 4);
        due("19: with the HIGH there is", column.narrowest(), 13);
    }

    private static void tall() {
        LaidOutBoxes none = new LaidOutBoxes();
        due("20: without TOP", none.tall(5), NO_SUCH);
        due("20: BAD ahead of NO_SUCH", none.tall(-1), BAD);
        due("20: no WORK", none.told(12), 0);
        LaidOutBoxes x = Check.tree("text 5 0");
        x.screen(100, 3);
        x.lays();
        int[][] wanted = {{0, 10}, {3, 10}, {12, 6}, {13, 4}, {23, 4}, {24, 2}, {200, 2}};
        for (int[] w : wanted) {
            due("20: tall(" + w[0] + ")", x.tall(w[0]), w[1]);
        }
        due("20: a copy and a VISIT each", x.told(12), 14);
        due("20: 201", x.tall(201), BAD);
        due("20: NO END", Check.tree("centre(block 1 9)").tall(50), 9);
        due("20: THE SCREEN stays", x.told(0) * 1000 + x.told(1), 100003);
    }

    private static void reached() {
        LaidOutBoxes x = Check.laidTree("row 0 0(pad 1 1(block 2 2),ratio 1 1(centre(block 1 1)),block 3 3)");
        due("21: up to THE TOP", x.reached(2, 0), 7);
        due("21: SKIPS", x.reached(2, 1), 2);
        due("21: WORK", x.told(12), 2 * (7 + 3 + 2));
        due("21: from what was laid by JUST that", x.reached(5, 0), 16 + 32);
        due("21: no SKIPS", x.reached(5, 1), 0);
        due("21: nothing is MARKED", x.told(4), 0);
        x.tells(5, 0, 9);
        x.tells(1, 0, 2);
        due("21: LAID OUT ahead of it", x.reached(6, 0), 1 + 64);
        due("21: what 2", x.reached(1, 2), NONE);
        due("21: what -1", x.reached(1, -1), NONE);
        due("21: no such", x.reached(7, 0), NONE);
        due("21: no such", x.reached(-1, 0), NONE);
    }

    private static void bestShare() {
        LaidOutBoxes x = Check.laidTree(TWO);
        due("22: the least of several", x.bestShare(2, 0), 1);
        due("22: WIDE then", x.bestShare(2, 1), 87);
        due("22: THE TOP's doesn't matter", x.bestShare(0, 0) * 100 + x.bestShare(0, 1), 33);
        due("22: ten copies", x.told(12), 2 * 10 * (3 + 3) + 2 * 10 * 3);
        x.tells(1, 4, 5);
        due("22: the most", x.bestShare(2, 0), 9);
        due("22: WIDE then", x.bestShare(2, 1), 62);
        x.screen(20, 20);
        due("22: 0", x.bestShare(2, 0) * 100 + x.bestShare(2, 1), 20);
        due("22: told as it was", x.of(2, 7) * 10 + x.of(1, 7), 5);
        due("22: what 2", x.bestShare(1, 2), NONE);
        due("22: no such", x.bestShare(3, 0), NONE);
        due("22: no such", x.bestShare(-1, 1), NONE);
    }

    private static void fits() {
        LaidOutBoxes x = Check.laidTree(TWO);
        x.screen(35, 100);
        due("23: a", x.fits(1, 0), (1 << 13) - 1);
        due("23: b", x.fits(1, 1), (1 << 21) - 1);
        due("23: of the ROW", x.fits(0, 0), 31);
        due("23: its gap", x.fits(0, 1), 63);
        due("23: one it hasn't", x.fits(1, 2), NONE);
        due("23: number 4", x.fits(1, 4), NONE);
        due("23: number 5", x.fits(1, 5), NONE);
        due("23: number -1", x.fits(1, -1), NONE);
        due("23: no such", x.fits(3, 0), NONE);
        due("23: no such", x.fits(-1, 0), NONE);
        LaidOutBoxes y = Check.laidTree("limit 3 5 7 99(ratio 1 1)");
        due("23: not above b", y.fits(0, 0), 63);
        due("23: six copies", y.told(12), 6 * (2 + 2));
        due("23: not below a", y.fits(0, 1), (1 << 21) - 8);
        due("23: not above d", y.fits(0, 2), (1 << 21) - 1);
        due("23: not below c", y.fits(0, 3), (1 << 21) - (1 << 7));
        due("23: of a RATIO", y.fits(1, 0), 1022);
        LaidOutBoxes z = Check.laidTree("layers 1");
        due("23: of LAYERS", z.fits(0, 0), 7);
        due("23: a copy and a VISIT for each it may have", z.told(12), 6);
        due("23: of a CENTRE", Check.tree("centre").fits(0, 0), NONE);
        due("23: from 2 on", Check.tree("row 0 0(ratio 1 1,block 50 1)").fits(1, 1), 1020);
    }

    private static void plan() {
        LaidOutBoxes x = Check.laidTree(TWO);
        due("24: no such", x.plan(3, 1), NONE);
        due("24: NONE ahead of BAD", x.plan(-2, 10), NONE);
        due("24: 10", x.plan(1, 10), BAD);
        due("24: -1", x.plan(1, -1), BAD);
        for (int i = 1; i <= 8; i++) {
            due("24: a row", x.plan(i % 3, i == 1 ? 0 : i + 1), i);
        }
        due("24: the ninth", x.plan(1, 1), FULL);
        due("24: BAD ahead of FULL", x.plan(1, 11), BAD);
        due("24: rows", x.told(11), 8);
        due("24: empty then", x.plan(-1, 99), 0);
        due("24: rows", x.told(11), 0);
        due("24: SHARES are as they were", x.of(1, 7) + x.of(2, 7), 0);
    }

    private static void saved() {
        LaidOutBoxes x = Check.tree(TWO);
        due("25: an empty PLAN", x.saved(), 0);
        due("25: two copies LAID OUT", x.told(12), 12);
        x.plan(1, 1);
        x.plan(2, 2);
        due("25: two and three VISITS, less three", x.saved(), 2);
        due("25: WORK", x.told(12), 12 + 12 + 2 + 1 + 3 + 3);
        x.lays();
        due("25: LAID OUT before", x.saved(), 2);
        x.drops(1);
        due("25: passed over", x.saved(), 0);
        due("25: rows stay", x.told(11), 2);
        due("25: SHARES are as they were", x.of(2, 7), 0);
    }

    private static void likely() {
        LaidOutBoxes x = Check.laidTree("row 0 0(block 60 5,block 60 5)");
        int[][] wanted = {{2, 3, 4}, {3, 5, 9}, {20, 39, 400}};
        for (int[] w : wanted) {
            due("26: above", x.likely(w[0], 0), w[1]);
            due("26: below", x.likely(w[0], 1), w[2]);
        }
        due("26: four copies each", x.told(12), 6 * (4 * 3 + 0 + 3 + 3 + 3));
        due("26: t 1", x.likely(1, 0), NO);
        due("26: t 21", x.likely(21, 0), NO);
        due("26: part 2", x.likely(2, 2), NO);
        due("26: part -1", x.likely(2, -1), NO);
        LaidOutBoxes down = Check.laidTree("column 0 0(block 5 60,block 5 60)");
        due("26: b is told, too", down.likely(2, 0) * 10 + down.likely(2, 1), 34);
        down.screen(100, 60);
        due("26: as 0", down.likely(2, 0) * 10 + down.likely(2, 1), 34);
        due("26: of THE TOP", Check.tree("block 9 9").likely(5, 1), 1);
        LaidOutBoxes six = Check.tree("row 0 0(text 0 0,block 1 1,block 1 1,block 1 1,block 1 1,block 1 1,block 1 1)");
        six.comes(0, 0, 99, 1, 0, 0);
        due("26: the first six", six.likely(2, 0) * 1000 + six.likely(2, 1), 7064);
        due("26: nothing there", new LaidOutBoxes().likely(2, 0), 1);
        LaidOutBoxes never = Check.tree("row 0 0(text 12 0,block 1 1)");
        never.screen(5, 5);
        due("26: never", never.likely(7, 0) * 10 + never.likely(7, 1), 1);
    }

    private static void drawnAndSeed() {
        LaidOutBoxes x = Check.laidTree("row 0 0(block 99 1)");
        due("27: WIDES 72 and 45", x.drawn(2), 27 + 54);
        due("27: a copy, a VISIT and a SKIP each", x.told(12), 2 * (2 + 2));
        due("28: SEED goes on", x.seed(1), -1770082073);
        due("27: again", x.drawn(1) * 100 + x.drawn(1), 2754);
        due("28: SEED", x.seed(Integer.MIN_VALUE), -1770082073);
        due("28: SEED", x.seed(-1), Integer.MIN_VALUE);
        x.seed(1);
        int together = 0;
        for (int i = 0; i < 20; i++) {
            together += x.drawn(1);
        }
        x.seed(1);
        due("27: n 20", x.drawn(20), together);
        x.seed(-1);
        due("27: n 0", x.drawn(0), BAD);
        due("27: n 21", x.drawn(21), BAD);
        due("27: n -1", x.drawn(-1), BAD);
        due("28: SEED stays", x.seed(1), -1);
        LaidOutBoxes none = new LaidOutBoxes();
        due("27: without TOP", none.drawn(1), 0);
        due("28: a DRAW all the same", none.seed(0), 1103527590);
        due("27: THE SCREEN stays", x.told(0), 100);
    }

    private static void mean() {
        LaidOutBoxes x = Check.tree("row 0 0(block 10 4,block 3 8)");
        due("29: never LAID", x.mean(0) * 10 + x.mean(1), 1);
        x.lays();
        due("29: above", x.mean(0), 26);
        due("29: below", x.mean(1), 3);
        x.tells(1, 0, 70);
        due("29: as LAID last", x.mean(0), 26);
        x.drops(1);
        due("29: in least terms", x.mean(0) * 10 + x.mean(1), 81);
        due("29: of one BOX", Check.laidTree("block 7 7").mean(0), 7);
        due("29: part 2", x.mean(2), NO);
        due("29: part -1", x.mean(-1), NO);
        x.drops(0);
        due("29: no BOXES", x.mean(0), NO);
        due("29: no BOXES", x.mean(1), NO);
    }

    private static void taken() {
        LaidOutBoxes x = new LaidOutBoxes();
        x.comes(9, -1, 0, 0, 0, 0);
        for (int kind = 0; kind < 10; kind++) {
            x.comes(kind, kind < 6 ? 0 : kind == 6 ? 3 : kind == 7 ? 4 : kind == 8 ? 5 : 6, 1, 1, 1, 1);
        }
        for (int box = 0; box <= 10; box++) {
            int kind = x.of(box, 0);
            for (int k = 0; k < 10; k++) {
                boolean passes = kind == k || (kind == 9 && k == 8) || (kind == 5 && k == 4) || (kind == 3 && k == 2);
                due("30: taken(" + box + ", " + k + ")", x.taken(box, k), passes ? kind : CAST);
            }
        }
        due("30: all came", x.told(9), 11);
        due("30: k 10", x.taken(0, 10), BAD);
        due("30: k -1", x.taken(0, -1), BAD);
        due("30: BAD ahead of NOTHING", x.taken(99, 10), BAD);
        due("30: no such BOX", x.taken(11, 0), NOTHING);
        due("30: no such BOX", x.taken(-1, 0), NOTHING);
    }

    private static void nothingChanges() {
        LaidOutBoxes x = Check.laidTree("row 0 1(fit(text 5 0),block 5 5*1,ratio 2 1*2(row 4 0(text 1 1,block 3 3)))");
        x.tells(2, 0, 6);
        x.asks(5, 0);
        x.plan(2, 3);
        String before = Check.all(x).replaceFirst("^(\\S+ ){12}\\S+", "");
        x.agrees();
        x.narrowest();
        x.tall(3);
        x.reached(2, 0);
        x.bestShare(2, 0);
        x.fits(2, 0);
        x.saved();
        x.likely(3, 1);
        Check.sameText("18 to 26 change nothing but WORK", Check.all(x).replaceFirst("^(\\S+ ){12}\\S+", ""), before);
    }

    private static void tooMuchWork() {
        LaidOutBoxes x = Check.tree("column 0 20(block 9 99,block 9 99,block 9 99,layers 0,layers 0)");
        for (int i = 0; i < 16; i++) {
            x.comes(2, i < 8 ? 4 : 5, 1, 1, 0, 0);
        }
        x.plan(0, 1);
        due("19: none", x.narrowest(), NO_SUCH);
        int once = x.told(12);
        due("19: 201 copies, all visited", once, 201 * 44);
        while (x.told(12) + once < 40000) {
            x.narrowest();
        }
        due("17: WORK below 40000", x.told(12), 4 * once);
        due("19: begun below 40000", x.narrowest(), NO_SUCH);
        due("17: WORK", x.told(12), 5 * once);
        String before = Check.all(x);
        due("18: FULL", x.agrees(), FULL);
        due("19: FULL", x.narrowest(), FULL);
        due("20: FULL", x.tall(5), FULL);
        due("20: BAD ahead of FULL", x.tall(-5), BAD);
        due("21: FULL", x.reached(1, 0), FULL);
        due("21: NONE ahead of FULL", x.reached(1, 5), NONE);
        due("22: FULL", x.bestShare(1, 0), FULL);
        due("22: NONE ahead of FULL", x.bestShare(-1, 0), NONE);
        due("23: FULL", x.fits(1, 0), FULL);
        due("23: NONE ahead of FULL", x.fits(1, 3), NONE);
        due("25: FULL", x.saved(), FULL);
        due("26: FULL", x.likely(2, 0), NO);
        due("27: FULL", x.drawn(1), FULL);
        due("27: BAD ahead of FULL", x.drawn(0), BAD);
        Check.sameText("18 to 27: nothing changed", Check.all(x), before);
        x.drops(0);
        due("20: FULL ahead of NO_SUCH", x.tall(5), FULL);
        due("19: FULL ahead of NO_SUCH", x.narrowest(), FULL);
        due("12: lays() goes on", x.comes(0, -1, 1, 1, 0, 0) * 10 + x.lays(), 221);
    }
}
