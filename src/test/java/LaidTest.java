/** Promises 12 to 17: LAYING OUT by each KIND, what is told of it, what is ASKED, who is AT a point. */
public final class LaidTest {
    private static final int NONE = -1, NO_SUCH = -5;

    public static void main(String[] args) {
        blocks();
        texts();
        pads();
        limits();
        centres();
        fits();
        ratios();
        layers();
        rowsWithoutShares();
        shares();
        freezing();
        across();
        columns();
        onTheirBase();
        bases();
        visitsAndSkips();
        theOrderOfTheList();
        atAndBounds();
        asks();
        memos();
        hit();
        told();
        Check.end("promises 12 to 17");
    }

    private static void due(String what, long got, long want) {
        Check.due(what, got, want);
    }

    private static LaidOutBoxes onScreen(int wide, int high, String tree) {
        return Check.onScreen(wide, high, tree);
    }

    private static void blocks() {
        LaidOutBoxes x = onScreen(100, 100, "block 30 40");
        Check.duePlace(x, 0, 0, 0, 30, 40);
        Check.dueBounds(x, 0, 0, 100, 0, 100);
        Check.duePlace(onScreen(20, 10, "block 30 40"), 0, 0, 0, 20, 10);
        Check.duePlace(onScreen(20, 10, "ratio 2 1(block 3 4)"), 1, 0, 0, 20, 10);
    }

    private static void texts() {
        // words of text 5 0 are 1 2 8 1 8 wide
        Check.duePlace(onScreen(100, 100, "text 5 0"), 0, 0, 0, 24, 2);
        Check.duePlace(onScreen(24, 100, "text 5 0"), 0, 0, 0, 24, 2);
        Check.duePlace(onScreen(23, 100, "text 5 0"), 0, 0, 0, 15, 4);
        Check.duePlace(onScreen(13, 100, "text 5 0"), 0, 0, 0, 13, 4);
        Check.duePlace(onScreen(12, 100, "text 5 0"), 0, 0, 0, 10, 6);
        Check.duePlace(onScreen(3, 100, "text 5 0"), 0, 0, 0, 3, 10);
        Check.duePlace(onScreen(0, 7, "text 5 0"), 0, 0, 0, 0, 7);
        Check.duePlace(onScreen(100, 100, "text 0 9"), 0, 0, 0, 0, 0);
        Check.duePlace(onScreen(100, 100, "text 2 31"), 0, 0, 0, 10, 2);
        Check.duePlace(onScreen(9, 100, "text 2 31"), 0, 0, 0, 8, 4);
        Check.duePlace(onScreen(10, 100, "row 0 0(text 5 0)"), 1, 0, 0, 24, 2);
    }

    private static void pads() {
        LaidOutBoxes x = onScreen(100, 100, "pad 3 2(block 10 10)");
        Check.duePlace(x, 0, 0, 0, 16, 14);
        Check.duePlace(x, 1, 3, 2, 10, 10);
        Check.dueBounds(x, 1, 0, 94, 0, 96);
        x = onScreen(4, 3, "pad 3 2(block 10 10)");
        Check.duePlace(x, 0, 0, 0, 4, 3);
        Check.duePlace(x, 1, 3, 2, 0, 0);
        Check.dueBounds(x, 1, 0, 0, 0, 0);
        x = onScreen(100, 1000, "pad 3 2(block 10 10)");
        Check.dueBounds(x, 1, 0, 94, 0, 1000);
        x = onScreen(100, 100, "ratio 1 1(pad 3 2(block 10 10))");
        Check.dueBounds(x, 2, 94, 94, 96, 96);
        Check.duePlace(x, 1, 0, 0, 100, 100);
        Check.duePlace(onScreen(100, 100, "pad 3 2"), 0, 0, 0, 6, 4);
        // a least that is NO END stays so, too
        x = onScreen(100, 200, "row 0 0(ratio 9 1(pad 3 2(block 10 10)))");
        Check.dueBounds(x, 2, 1000, 1000, 200, 200);
        Check.dueBounds(x, 3, 1000, 1000, 196, 196);
    }

    private static void limits() {
        LaidOutBoxes x = onScreen(100, 100, "limit 10 20 30 99(block 15 5)");
        Check.dueBounds(x, 1, 10, 20, 30, 100);
        Check.duePlace(x, 0, 0, 0, 15, 30);
        Check.duePlace(x, 1, 0, 0, 15, 30);
        Check.duePlace(onScreen(100, 100, "limit 10 20 30 99"), 0, 0, 0, 10, 30);
        x = onScreen(8, 20, "limit 10 20 30 99(block 99 99)");
        Check.dueBounds(x, 1, 8, 8, 20, 20);
        Check.duePlace(x, 0, 0, 0, 8, 20);
        x = onScreen(100, 100, "row 0 0(limit 10 99 0 98(block 1 99))");
        Check.dueBounds(x, 2, 10, 1000, 0, 98);
        Check.duePlace(x, 1, 0, 0, 10, 98);
    }

    private static void centres() {
        LaidOutBoxes x = onScreen(100, 100, "centre(block 10 5)");
        Check.duePlace(x, 0, 0, 0, 100, 100);
        Check.duePlace(x, 1, 45, 47, 10, 5);
        x = onScreen(100, 50, "row 0 0(centre(block 10 5))");
        Check.duePlace(x, 1, 0, 0, 10, 50);
        Check.duePlace(x, 2, 0, 22, 10, 5);
        x = onScreen(100, 1000, "centre");
        Check.duePlace(x, 0, 0, 0, 100, 0);
        x = onScreen(90, 60, "ratio 3 2(centre(block 10 5))");
        Check.dueBounds(x, 2, 0, 90, 0, 60);
        Check.duePlace(x, 2, 40, 27, 10, 5);
        x = onScreen(100, 100, "row 0 0(limit 30 99 0 99(centre(block 11 5)))");
        Check.duePlace(x, 2, 0, 0, 30, 100);
        Check.duePlace(x, 3, 9, 47, 11, 5);
    }

    private static void fits() {
        LaidOutBoxes x = onScreen(100, 100, "fit(text 5 0)");
        Check.dueBounds(x, 1, 24, 24, 0, 100);
        Check.duePlace(x, 0, 0, 0, 24, 2);
        Check.duePlace(x, 1, 0, 0, 24, 2);
        x = onScreen(13, 100, "fit(text 5 0)");
        Check.dueBounds(x, 1, 13, 13, 0, 100);
        Check.duePlace(x, 0, 0, 0, 13, 4);
        Check.duePlace(onScreen(100, 100, "limit 5 9 7 9(fit)"), 1, 0, 0, 5, 7);
        Check.duePlace(onScreen(100, 100, "fit"), 0, 0, 0, 0, 0);
        x = onScreen(100, 100, "limit 50 99 7 9(fit(block 3 1))");
        Check.dueBounds(x, 2, 50, 50, 7, 9);
    }

    private static void ratios() {
        LaidOutBoxes x = onScreen(100, 100, "ratio 3 2(block 1 1)");
        Check.duePlace(x, 0, 0, 0, 100, 66);
        Check.dueBounds(x, 1, 100, 100, 66, 66);
        Check.duePlace(onScreen(100, 50, "ratio 3 2"), 0, 0, 0, 75, 50);
        Check.duePlace(onScreen(100, 1000, "ratio 1 9"), 0, 0, 0, 100, 900);
        Check.duePlace(onScreen(200, 1000, "ratio 1 9"), 0, 0, 0, 111, 1000);
        Check.duePlace(onScreen(100, 100, "row 0 0(ratio 3 2)"), 1, 0, 0, 150, 100);
        Check.duePlace(onScreen(100, 100, "column 0 0(row 0 0(ratio 3 2))"), 2, 0, 0, 30, 20);
        x = onScreen(100, 200, "row 0 0(ratio 9 1(block 1 1))");
        Check.duePlace(x, 1, 0, 0, 1000, 200);
        due("12: OVER", x.at(0, 6), 900);
        Check.duePlace(onScreen(100, 100, "limit 0 99 80 80(ratio 9 1)"), 1, 0, 0, 100, 80);
    }

    private static void layers() {
        int[][] places = {{0, 0, 0, 0}, {0, 2, 2, 0}, {0, 4, 5, 0}};
        for (int a = 0; a < 3; a++) {
            LaidOutBoxes x = onScreen(100, 100, "layers " + a + "(block 10 4,block 5 8)");
            Check.duePlace(x, 0, 0, 0, 10, 8);
            Check.duePlace(x, 1, places[a][0], places[a][1], 10, 4);
            Check.duePlace(x, 2, places[a][2], places[a][3], 5, 8);
        }
        LaidOutBoxes x = onScreen(100, 100, "ratio 3 2(layers 1(block 10 4,block 5 8))");
        Check.dueBounds(x, 2, 0, 100, 0, 66);
        Check.duePlace(x, 2, 45, 31, 10, 4);
        Check.duePlace(x, 3, 47, 29, 5, 8);
        Check.duePlace(onScreen(100, 100, "layers 2"), 0, 0, 0, 0, 0);
    }

    private static void rowsWithoutShares() {
        LaidOutBoxes x = onScreen(100, 100, "row 0 3(block 10 4,block 20 8)");
        Check.duePlace(x, 0, 0, 0, 33, 8);
        Check.duePlace(x, 1, 0, 0, 10, 4);
        Check.duePlace(x, 2, 13, 0, 20, 8);
        Check.dueBounds(x, 2, 0, 1000, 0, 100);
        Check.dueAt(x, 0, 6, 0, 0);
        x = onScreen(30, 50, "row 0 3(block 10 4,block 20 8)");
        Check.duePlace(x, 0, 0, 0, 30, 8);
        Check.duePlace(x, 2, 13, 0, 20, 8);
        Check.dueAt(x, 0, 6, 3, 0);
        Check.duePlace(onScreen(30, 50, "row 0 20"), 0, 0, 0, 0, 0);
        x = Check.tree("row 0 20(block 10 4)");
        x.tells(1, 5, 12);
        x.tells(1, 6, 15);
        x.lays();
        Check.dueBounds(x, 1, 12, 15, 0, 100);
        Check.duePlace(x, 0, 0, 0, 12, 4);
        x = onScreen(100, 100, "ratio 1 1(row 0 0(block 10 4))");
        Check.duePlace(x, 1, 0, 0, 100, 100);
        due("12: OVER", x.at(1, 6), 0);
        Check.duePlace(onScreen(100, 100, "limit 20 99 30 99(row 0 0(block 10 4))"), 1, 0, 0, 20, 30);
        Check.duePlace(onScreen(100, 100, "limit 20 99 30 99(column 0 0(block 10 4))"), 1, 0, 0, 20, 30);
    }

    private static void shares() {
        LaidOutBoxes x = onScreen(100, 100, "row 0 0(block 10 5,block 1 7*1,block 1 1*2)");
        Check.duePlace(x, 0, 0, 0, 100, 7);
        Check.duePlace(x, 2, 10, 0, 30, 7);
        Check.duePlace(x, 3, 40, 0, 60, 1);
        Check.dueBounds(x, 2, 30, 30, 0, 100);
        due("12: ROUNDS", x.at(0, 7), 1);
        x = onScreen(102, 100, "row 0 1(block 1 1*2,block 10 5,block 1 1*3,block 1 1*2)");
        // ROOM 89: 25 38 25, and 1 more for the first
        due("12: the rest by 1 in order", x.at(1, 4) * 10000 + x.at(3, 4) * 100 + x.at(4, 4), 263825);
        due("12: behind one another", x.at(3, 0) * 1000 + x.at(4, 0), 38077);
        x = onScreen(101, 100, "row 0 1(block 1 1*1,block 10 5,block 1 1*1,block 1 1*1)");
        due("12: ROOM 88", x.at(1, 4) * 10000 + x.at(3, 4) * 100 + x.at(4, 4), 302929);
        x = onScreen(5, 100, "row 0 1(block 9 9,block 1 1*1)");
        due("12: no ROOM", x.at(2, 4), 0);
        Check.dueAt(x, 0, 6, 5, 1);
        x = onScreen(100, 100, "row 0 0(row 0 0(block 10 5*3),row 0 2*1(block 7 5*2,block 4 4))");
        due("12: with NO END all are without SHARE", x.at(2, 4), 10);
        Check.dueAt(x, 1, 6, 0, 0);
        due("12: with an end not", x.at(4, 4), 84);
        LaidOutBoxes y = onScreen(100, 100, "column 0 0(row 0 1(block 5 5*1,block 4 4))");
        due("12: WIDE has an end here", y.at(1, 4) * 100 + y.at(2, 4), 10095);
    }

    private static void freezing() {
        LaidOutBoxes x = Check.tree("row 0 0(block 1 1*1,block 1 1*1,block 1 1*2)");
        x.tells(1, 5, 50);
        x.tells(2, 6, 10);
        x.lays();
        due("12: frozen one by one", x.at(1, 4) * 10000 + x.at(2, 4) * 100 + x.at(3, 4), 501040);
        Check.dueAt(x, 0, 6, 0, 3);
        x.tells(3, 5, 90);
        x.lays();
        due("12: all LEASTS", x.at(1, 4) * 10000 + x.at(2, 4) * 100 + x.at(3, 4), 500090);
        Check.dueAt(x, 0, 6, 40, 2);
        x = Check.tree("row 0 0(block 1 1*1,block 1 1*3)");
        x.tells(1, 5, 30);
        x.tells(2, 6, 70);
        x.lays();
        due("12: as much HELD as without", x.at(1, 4) * 100 + x.at(2, 4), 3070);
        due("12: in one ROUND", x.at(0, 7), 1);
        x = Check.tree("row 0 0(block 1 1*1,block 1 1*1)");
        x.tells(1, 6, 20);
        x.tells(2, 6, 30);
        x.lays();
        due("12: all MOSTS", x.at(1, 4) * 100 + x.at(2, 4), 2030);
        due("12: the ROW has all of it still", x.at(0, 4), 100);
        due("12: ROUNDS", x.at(0, 7), 1);
        x.tells(1, 4, 0);
        x.tells(2, 4, 0);
        x.lays();
        due("12: no ROUNDS any more", x.at(0, 7), 0);
        x = Check.tree("row 0 0(block 1 1*1,block 1 1*1)");
        x.tells(1, 5, 51);
        x.lays();
        due("12: more by 1", x.at(1, 4) * 1000 + x.at(2, 4) * 10 + x.at(0, 7), 51492);
        x.tells(1, 5, 0);
        x.tells(1, 6, 49);
        x.lays();
        due("12: less by 1", x.at(1, 4) * 1000 + x.at(2, 4) * 10 + x.at(0, 7), 49512);
    }

    private static void across() {
        int[][] down = {{0, 0}, {2, 0}, {4, 0}, {0, 0}};
        for (int a = 0; a < 3; a++) {
            LaidOutBoxes x = onScreen(100, 100, "row " + a + " 0(block 1 4,block 1 8)");
            due("12: y", x.at(1, 1) * 10 + x.at(2, 1), down[a][0] * 10 + down[a][1]);
            due("12: HIGH", x.at(0, 5), 8);
            LaidOutBoxes y = onScreen(100, 100, "column " + a + " 0(block 4 1,block 8 1)");
            due("12: x", y.at(1, 0) * 10 + y.at(2, 0), down[a][0] * 10 + down[a][1]);
        }
        LaidOutBoxes x = onScreen(100, 50, "row 3 0(block 1 4)");
        Check.dueBounds(x, 1, 0, 1000, 50, 50);
        Check.duePlace(x, 0, 0, 0, 1, 50);
        Check.dueBounds(onScreen(100, 1000, "row 3 0(block 1 4)"), 1, 0, 1000, 0, 1000);
        x = onScreen(100, 100, "column 4 0(text 1 2,block 3 1)");
        due("12: a COLUMN's 4 is at 0", x.at(2, 0) * 10 + x.of(1, 13), 0);
        x = onScreen(50, 50, "ratio 1 1(row 1 0(block 3 7))");
        Check.duePlace(x, 2, 0, 21, 3, 7);
    }

    private static void columns() {
        LaidOutBoxes x = onScreen(60, 50, "column 3 1(block 5 3*1,block 7 5,block 9 7*2,block 11 9)");
        x.tells(1, 5, 4);
        x.tells(1, 6, 9);
        x.lays();
        Check.duePlace(x, 1, 0, 0, 60, 9);
        Check.duePlace(x, 2, 0, 10, 60, 5);
        Check.duePlace(x, 3, 0, 16, 60, 24);
        Check.duePlace(x, 4, 0, 41, 60, 9);
        Check.dueAt(x, 0, 6, 0, 2);
        x = onScreen(60, 10, "column 2 1(block 5 8,block 7 5)");
        Check.duePlace(x, 0, 0, 0, 7, 10);
        Check.duePlace(x, 1, 2, 0, 5, 8);
        Check.duePlace(x, 2, 0, 9, 7, 5);
        due("12: OVER", x.at(0, 6), 4);
    }

    private static void onTheirBase() {
        LaidOutBoxes x = onScreen(100, 100, "row 4 1(text 3 2,block 4 9,text 2 20)");
        Check.duePlace(x, 0, 0, 0, 35, 10);
        Check.duePlace(x, 1, 0, 8, 19, 2);
        Check.duePlace(x, 2, 20, 0, 4, 9);
        Check.duePlace(x, 3, 25, 8, 10, 2);
        due("13: BASE", x.at(0, 8), 9);
        x = onScreen(100, 100, "row 4 0(pad 0 5(text 1 0),text 1 0)");
        Check.duePlace(x, 0, 0, 0, 2, 12);
        due("12: y", x.at(3, 1), 5);
        due("13: BASE", x.at(0, 8) * 10 + x.at(1, 8), 66);
        x = onScreen(100, 0, "row 4 0(text 1 0)");
        Check.duePlace(x, 0, 0, 0, 1, 0);
        due("13: BASE", x.at(0, 8), 1);
        x = onScreen(100, 100, "row 4 0");
        Check.duePlace(x, 0, 0, 0, 0, 0);
        due("13: BASE of a ROW without CHILDREN", x.at(0, 8), NO_SUCH);
        due("13: BASE of a ROW of a BLOCK alone", onScreen(100, 100, "row 4 0(block 1 7)").at(0, 8), 7);
    }

    private static void bases() {
        LaidOutBoxes x = onScreen(100, 100, "column 0 2(block 4 4,text 0 3,pad 1 1,row 0 0,text 1 0,text 2 0)");
        int[] wanted = {4 + 2 + 2 + 2 + 2 + 2 + 1, NO_SUCH, NO_SUCH, NO_SUCH, NO_SUCH, 1, 1};
        for (int box = 0; box < wanted.length; box++) {
            due("13: BASE " + box, x.at(box, 8), wanted[box]);
        }
        x.tells(5, 0, 0);
        due("13: as LAID last", x.at(5, 8), 1);
        x.lays();
        due("13: without words", x.at(5, 8), NO_SUCH);
        due("13: the next that has one", x.at(0, 8), 4 + 2 + 2 + 2 + 2 + 2 + 2 + 1);
        LaidOutBoxes y = onScreen(100, 100, "row 4 0(block 1 7,text 1 0)");
        y.tells(0, 0, 0);
        y.drops(1);
        y.drops(2);
        due("13: of a ROW whose a was 4", y.at(0, 8), 7);
        y.lays();
        due("13: not any more", y.at(0, 8), NO_SUCH);
        LaidOutBoxes z = Check.tree("text 3 3");
        due("13: never LAID", z.at(0, 8), NO_SUCH);
    }

    private static void visitsAndSkips() {
        LaidOutBoxes x = Check.tree("row 0 0(pad 1 1(block 2 2),block 3 3,centre(block 1 1))");
        due("12: all", x.lays() * 10 + x.told(8), 60);
        due("12: none", x.lays() * 10 + x.told(8), 0);
        due("17: told(7)", x.told(7), 0);
        x.tells(2, 1, 9);
        due("12: the way to it", x.lays() * 10 + x.told(8), 32);
        due("17: told(7)", x.told(7) * 10 + x.told(8), 32);
        x.screen(50, 100);
        due("12: other BOUNDS alone are visited", x.lays() * 10 + x.told(8), 13);
        x.screen(50, 90);
        due("12: HIGH reaches all", x.lays() * 10 + x.told(8), 60);
        x.tells(0, 1, 1);
        x.tells(3, 0, 1);
        due("17: told(7), told(8) of the latest lays()", x.told(7) * 10 + x.told(8), 60);
        due("12: two VISITS", x.lays() * 10 + x.told(8), 22);
    }

    private static void theOrderOfTheList() {
        // 2 and 4 were laid by JUST that; 4 lies in 2
        LaidOutBoxes x = Check.laidTree("row 0 0(ratio 1 1(centre(ratio 1 1(centre(block 2 2)))))");
        x.tells(5, 0, 3);
        x.tells(3, 0, 2);
        due("12: THE LIST", x.told(5), 4 + 16);
        due("12: from the upper one", x.lays() * 10 + x.told(8), 40);
        due("12: nothing is DIRTY", x.told(4), 0);
        x.tells(5, 0, 4);
        x.tells(2, 4, 4);
        due("12: a clean one isn't gone through", x.told(4), 2 + 1 + 16 + 32);
        due("12: THE LIST", x.told(5), 1 + 16);
        due("12: both, and a SKIP", x.lays() * 10 + x.told(8), 41);
        LaidOutBoxes y = Check.laidTree("ratio 1 1(centre(block 2 2))");
        y.tells(2, 0, 9);
        due("12: THE LIST", y.told(5), 2);
        due("12: right below THE TOP", y.lays() * 100 + y.at(2, 4), 209);
    }

    private static void atAndBounds() {
        LaidOutBoxes x = onScreen(100, 100, "pad 3 2(row 0 4(block 5 5,pad 1 6(block 9 9)))");
        Check.dueAt(x, 4, 0, 1, 6, 13, 8, 9, 9, 0, 0, NO_SUCH);
        Check.dueAt(x, 0, 0, 0, 0, 0, 0, 26, 25, 0, 0, NO_SUCH);
        due("13: what 9", x.at(4, 9), NONE);
        due("13: what -1", x.at(4, -1), NONE);
        due("13: no such", x.at(5, 0), NONE);
        due("13: no such", x.at(-1, 0), NONE);
        due("14: what 4", x.bounds(4, 4), NONE);
        due("14: what -1", x.bounds(4, -1), NONE);
        due("14: no such", x.bounds(5, 0), NONE);
        x.comes(1, 1, 5, 5, 0, 0);
        Check.dueAt(x, 5, 0, 0, 0, 0, 0, 0, 0, 0, 0, NO_SUCH);
        due("14: never LAID", x.bounds(5, 0), NO_SUCH);
        due("14: NONE ahead of NO_SUCH", x.bounds(5, 4), NONE);
        x.tells(2, 0, 50);
        x.tells(0, 0, 9);
        x.moves(2, 1);
        Check.dueAt(x, 4, 0, 1, 6, 13, 8, 9, 9, 0, 0, NO_SUCH);
        Check.dueAt(x, 2, 0, 0, 0, 3, 2, 5, 5);
        Check.dueBounds(x, 4, 0, 1000, 0, 84);
    }

    private static void asks() {
        String[] trees = {"block 7 9", "text 5 0", "text 0 5", "pad 3 9(text 5 0)", "pad 3 9", "limit 10 20 0 0(text 5 0)",
            "limit 10 99 0 0(text 5 0)", "limit 10 20 0 0", "centre(text 5 0)", "centre", "fit(text 5 0)", "fit",
            "ratio 3 9(text 5 0)", "layers 1(text 5 0,block 9 1)", "column 1 7(text 5 0,block 9 1)",
            "row 1 7(text 5 0,block 9 1,block 1 1)", "row 0 20", "layers 0", "column 0 9"};
        int[] greatest = {7, 24, 0, 30, 6, 20, 24, 10, 24, 0, 24, 0, 30, 24, 24, 24 + 9 + 1 + 14, 0, 0, 0};
        int[] narrow = {7, 8, 0, 14, 6, 10, 10, 10, 8, 0, 24, 0, 3, 9, 9, 8 + 9 + 1 + 14, 0, 0, 0};
        for (int i = 0; i < trees.length; i++) {
            LaidOutBoxes x = Check.tree(trees[i]);
            due("15: GREATEST of " + trees[i], x.asks(0, 0), greatest[i]);
            due("15: NARROW of " + trees[i], x.asks(0, 1), narrow[i]);
        }
        LaidOutBoxes text = Check.tree("text 3 2");
        due("15: words 8 1 8", text.asks(0, 0) * 100 + text.asks(0, 1), 1908);
        due("15: the MEMOS", text.asks(0, 0) * 100 + text.asks(0, 1), 1908);
        due("15: the first word is the widest", Check.tree("text 2 2").asks(0, 1), 8);
        LaidOutBoxes x = Check.tree("row 0 1(block 9 1,block 50 1,row 0 0(block 99 1,block 99 1))");
        x.tells(1, 5, 20);
        x.tells(2, 6, 30);
        due("15: HELD by LEAST, MOST", x.asks(0, 0), 20 + 30 + 198 + 2);
        due("15: what 2", x.asks(0, 2), NONE);
        due("15: what -1", x.asks(0, -1), NONE);
        due("15: no such", x.asks(6, 0), NONE);
        due("15: no such", x.asks(-1, 0), NONE);
        LaidOutBoxes y = Check.tree("row 0 0(row 0 20)");
        for (int i = 0; i < 8; i++) {
            y.comes(2, 1, 20, 0, 0, 0);
            y.tells(2 + i, 5, 99);
        }
        due("15: MOST of 99 is 1000", y.asks(1, 0), 8 * 99 + 7 * 20);
        y.tells(1, 6, 98);
        due("15: MOST of 98", y.asks(0, 0), 98);
    }

    private static void memos() {
        LaidOutBoxes x = Check.laidTree("row 0 0(pad 1 1(block 2 2),ratio 1 1(block 1 1))");
        due("17: none made", x.told(13), 0);
        x.asks(0, 0);
        due("17: a RATIO asks nobody", x.told(13), 4);
        due("7: MEMOS", x.of(0, 12) + x.of(1, 12) + x.of(2, 12) + x.of(3, 12) + x.of(4, 12), 4);
        x.asks(0, 0);
        x.asks(1, 0);
        due("17: not asked again", x.told(13), 4);
        x.asks(2, 1);
        x.asks(0, 1);
        due("17: NARROW is one of its own", x.told(13), 8);
        x.tells(2, 0, 5);
        due("7: thrown out on the way", x.of(0, 12) + x.of(1, 12) + x.of(2, 12) + x.of(3, 12) * 10, 30);
        due("15: anew", x.asks(0, 0), 7 + 10);
        due("17: three anew", x.told(13), 11);
        LaidOutBoxes y = Check.laidTree("fit(layers 0(text 2 2,block 9 9))");
        due("17: a FIT asks as it is laid", y.told(13), 3);
        y.asks(0, 1);
        due("17: of a FIT GREATEST is asked for both", y.told(13), 4);
        y.agrees();
        y.narrowest();
        due("17: not in thought", y.told(13), 4);
        y.tells(2, 0, 1);
        due("7: up to THE TOP", y.told(4) * 10 + y.told(5), 71);
    }

    private static void hit() {
        LaidOutBoxes x = onScreen(100, 100, "layers 1(block 20 20,pad 2 2(block 6 6),block 4 4)");
        // 0 and 1 are 20 by 20, 2 is 10 by 10 at (5, 5), 3 6 by 6 in it at (7, 7), 4 4 by 4 at (8, 8)
        due("16: the last CHILD", x.hit(8, 8), 4);
        due("16: its last point", x.hit(11, 11), 4);
        due("16: beside it", x.hit(12, 11), 3);
        due("16: in the PAD alone", x.hit(14, 14), 2);
        due("16: behind it", x.hit(15, 14), 1);
        due("16: the first point", x.hit(0, 0), 1);
        due("16: beyond", x.hit(20, 0), NO_SUCH);
        due("16: beyond", x.hit(0, 20), NO_SUCH);
        due("16: ahead", x.hit(-1, 0), NO_SUCH);
        due("16: far off", x.hit(Integer.MIN_VALUE, Integer.MIN_VALUE), NO_SUCH);
        due("16: far off", x.hit(Integer.MAX_VALUE, 0), NO_SUCH);
        x.drops(4);
        due("16: who is there", x.hit(8, 8), 3);
        LaidOutBoxes y = onScreen(10, 10, "row 0 0(block 5 5,block 20 20)");
        due("16: sought within those it is in", y.hit(9, 9), 2);
        due("16: not outside", y.hit(10, 9), NO_SUCH);
        due("16: never LAID", Check.tree("block 5 5").hit(0, 0), NO_SUCH);
        due("16: of 0 by 0", onScreen(9, 9, "layers 0(block 0 5,text 0 0)").hit(0, 0), NO_SUCH);
    }

    private static void told() {
        LaidOutBoxes x = onScreen(30, 70, "row 0 0(column 0 0(block 9 99),block 25 1)");
        x.letter(65);
        x.plan(1, 1);
        int[] wanted = {30, 70, 0, 15, 0, 0, 1 + 2, 4, 0, 4, 1, 1, 0, 0};
        for (int what = 0; what < wanted.length; what++) {
            due("17: told(" + what + ")", x.told(what), wanted[what]);
        }
        due("17: what 14", x.told(14), NONE);
        due("17: what -1", x.told(-1), NONE);
        x.tells(2, 1, 1);
        due("17: DIRTY ones", x.told(4), 7);
        due("17: on THE LIST", x.told(5), 1);
        due("17: OVER as LAID last", x.told(6), 3);
        x.lays();
        due("17: OVER now", x.told(6), 1);
    }
}
