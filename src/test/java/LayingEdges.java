/** Edges of what the Terms say of BOUNDS and of each KIND that is LAID by them. */
final class LayingEdges {
    private static final int NO_SUCH = -5;
    private static final int BLOCK = 0, TEXT = 1, ROW = 8;
    private static final int WIDE = 4, HIGH = 5, OVER = 6, ROUNDS = 7, BASE = 8;

    private LayingEdges() {
    }

    static void all() {
        held();
        bounds();
        blocks();
        texts();
        pads();
        limits();
        centres();
        fits();
        ratios();
        layers();
        acrossBounds();
        withoutShare();
        room();
        rounds();
        freezing();
        asDeepAsCanBe();
        alongAndOver();
        places();
        standing();
        bases();
        asked();
        askedTogether();
        memos();
    }

    private static void due(String what, long got, long want) {
        Edge.due(what, got, want);
    }

    private static LaidOutBoxes onScreen(int wide, int high, String tree) {
        return Check.onScreen(wide, high, tree);
    }

    private static void held() {
        Edge.of(12, "HELD by a least and a most: what is less becomes the least, what is more the most.");
        int[][] held = {{9, 10}, {10, 10}, {11, 11}, {19, 19}, {20, 20}, {21, 20}};
        for (int[] h : held) {
            LaidOutBoxes x = onScreen(100, 100, "limit 10 20 10 20(block " + h[0] + " " + h[0] + ")");
            due("WIDE of " + h[0], x.at(1, WIDE), h[1]);
            due("HIGH of " + h[0], x.at(1, HIGH), h[1]);
        }
        LaidOutBoxes y = onScreen(100, 100, "limit 15 15 15 15(block 3 99)");
        due("a least that is the most", y.at(1, WIDE) * 100 + y.at(1, HIGH), 1515);
        Edge.of(12, "NO END counts as 1000.");
        LaidOutBoxes x = onScreen(100, 1000, "block 1 1");
        due("most HIGH", x.bounds(0, 3), 1000);
        LaidOutBoxes z = onScreen(200, 1000, "ratio 1 9(block 1 1)");
        due("more than 1000 becomes 1000", z.at(0, WIDE) * 10000 + z.at(0, HIGH), 1111000);
        Check.dueBounds(z, 1, 111, 111, 1000, 1000);
    }

    private static void bounds() {
        Edge.of(14, "BOUNDS: a least and a most WIDE, a least and a most HIGH;");
        Check.dueBounds(onScreen(50, 60, "limit 1 2 3 4(block 0 0)"), 1, 1, 2, 3, 4);
        Check.dueBounds(onScreen(0, 0, "block 5 5"), 0, 0, 0, 0, 0);
        Edge.of(12, "JUST, if both leasts are the mosts.");
        // a BOX in it tells who is MARKED: 1 is on THE LIST, if its BOUNDS were JUST
        int[][] limits = {{5, 5, 5, 5, 1}, {5, 6, 5, 5, 0}, {5, 5, 5, 6, 0}, {0, 0, 0, 0, 1}};
        for (int[] l : limits) {
            LaidOutBoxes x = Check.laidTree("limit " + l[0] + " " + l[1] + " " + l[2] + " " + l[3] + "(block 1 1)");
            x.tells(1, 0, 2);
            due("just WIDE " + (l[1] - l[0]) + ", just HIGH " + (l[3] - l[2]), x.of(1, 11), l[4]);
            due("its PARENT", x.of(0, 10), 1 - l[4]);
        }
        LaidOutBoxes none = onScreen(0, 0, "pad 1 1(block 1 1)");
        none.tells(1, 0, 2);
        due("a SCREEN of 0 by 0 makes JUST ones", none.told(5), 2);
        Edge.of(12, "A BOX is LAID by BOUNDS: its SIZE (WIDE, HIGH) comes of that, always HELD by them, and the place"
                + " (x, y) of each CHILD in it.");
        String[] kinds = {"block 60 60", "text 12 3", "pad 20 20", "limit 60 70 60 70", "centre", "fit", "ratio 3 2",
            "layers 0", "row 0 0", "row 4 0", "column 0 0"};
        for (String kind : kinds) {
            boolean takes = !kind.startsWith("block") && !kind.startsWith("text");
            LaidOutBoxes x = onScreen(3, 2, takes ? kind + "(block 40 40)" : kind);
            due(kind + ", most WIDE", x.at(0, WIDE) <= 3 ? 1 : 0, 1);
            due(kind + ", most HIGH", x.at(0, HIGH) <= 2 ? 1 : 0, 1);
            LaidOutBoxes y = onScreen(100, 100, "limit 90 99 80 99(" + kind + ")");
            due(kind + ", least WIDE", y.at(1, WIDE) >= 90 ? 1 : 0, 1);
            due(kind + ", least HIGH", y.at(1, HIGH) >= 80 ? 1 : 0, 1);
        }
        Edge.of(12, "LOOSE: with these mosts, leasts 0.");
        Check.dueBounds(onScreen(100, 100, "limit 7 50 8 60(centre(block 1 1))"), 2, 0, 50, 0, 60);
        Check.dueBounds(onScreen(100, 100, "limit 7 50 8 60(layers 0(block 1 1))"), 2, 0, 50, 0, 60);
    }

    private static void blocks() {
        Edge.of(12, "a by b.");
        Check.duePlace(onScreen(100, 100, "block 0 0"), 0, 0, 0, 0, 0);
        Check.duePlace(onScreen(100, 100, "block 99 98"), 0, 0, 0, 99, 98);
        Check.duePlace(onScreen(99, 98, "block 99 98"), 0, 0, 0, 99, 98);
        Check.duePlace(onScreen(98, 97, "block 99 98"), 0, 0, 0, 98, 97);
        Check.duePlace(onScreen(0, 1000, "block 99 98"), 0, 0, 0, 0, 98);
    }

    private static void texts() {
        Edge.of(12, "a words; word k is as WIDE as 1 and the remainder of 7 m m and 3 m by 9, m being the remainder"
                + " of b and k by 32.");
        int[] wides = {1, 2, 8, 1, 8, 2, 1, 5, 5};
        for (int b = 0; b < 32; b++) {
            due("one word, b " + b, onScreen(100, 100, "text 1 " + b).at(0, WIDE), wides[b % 9]);
        }
        due("from 31 on to 0", onScreen(100, 100, "text 2 31").at(0, WIDE), 8 + 1 + 1);
        due("12 words from 31 on", onScreen(100, 100, "text 12 31").at(0, WIDE), 8 + 1 + 2 + 8 + 1 + 8 + 2 + 1 + 5 + 5 + 1 + 2 + 11);
        due("no words", onScreen(100, 100, "text 0 31").at(0, WIDE), 0);
        Edge.of(12, "In lines: a word comes behind the line's last one with a blank (1) between, if the line is no"
                + " more than the most WIDE then, else it begins a line.");
        // words 1 2 8 1 8
        int[][] sizes = {{24, 24, 2}, {23, 15, 4}, {15, 15, 4}, {14, 13, 4}, {13, 13, 4}, {12, 10, 6}, {10, 10, 6}, {9, 8, 8},
            {8, 8, 8}, {7, 7, 8}, {4, 4, 8}, {3, 3, 10}, {2, 2, 10}, {1, 1, 10}, {0, 0, 10}};
        for (int[] s : sizes) {
            LaidOutBoxes x = onScreen(s[0], 100, "text 5 0");
            due("WIDE at most " + s[0], x.at(0, WIDE), s[1]);
            due("HIGH at most " + s[0], x.at(0, HIGH), s[2]);
        }
        due("with NO END in one line", onScreen(0, 100, "row 0 0(text 12 31)").at(1, HIGH), 2);
        Edge.of(12, "The WIDEST line by 2 each line.");
        Check.duePlace(onScreen(100, 100, "text 0 0"), 0, 0, 0, 0, 0);
        Check.duePlace(onScreen(100, 100, "text 1 0"), 0, 0, 0, 1, 2);
        Check.duePlace(onScreen(0, 100, "text 12 0"), 0, 0, 0, 0, 24);
        Check.duePlace(onScreen(0, 23, "text 12 0"), 0, 0, 0, 0, 23);
        // lines 5+1+5 = 11, 1+1+2 = 4, 8: the first is the widest
        Check.duePlace(onScreen(11, 100, "text 5 7"), 0, 0, 0, 11, 6);
    }

    private static void pads() {
        Edge.of(12, "the CHILD by BOUNDS with 2a less WIDE, 2b less HIGH (0 at least; NO END stays so), at (a, b);");
        int[][] mosts = {{11, 9, 1, 1}, {10, 8, 0, 0}, {9, 7, 0, 0}, {0, 0, 0, 0}, {200, 200, 190, 192}, {10, 1000, 0, 1000}};
        for (int[] m : mosts) {
            LaidOutBoxes x = onScreen(m[0], m[1], "pad 5 4(block 3 3)");
            Check.dueBounds(x, 1, 0, m[2], 0, m[3]);
            Check.dueAt(x, 1, 0, 5, 4);
        }
        Check.dueBounds(onScreen(100, 100, "limit 11 50 9 50(pad 5 4(block 3 3))"), 2, 1, 40, 1, 42);
        Check.dueBounds(onScreen(100, 100, "limit 9 50 7 50(pad 5 4(block 3 3))"), 2, 0, 40, 0, 42);
        Check.dueBounds(onScreen(100, 100, "row 0 0(pad 5 4(block 3 3))"), 2, 0, 1000, 0, 92);
        Check.dueBounds(onScreen(100, 100, "pad 0 0(block 3 3)"), 1, 0, 100, 0, 100);
        Edge.of(12, "the CHILD's SIZE (0 by 0 of none) with 2a, 2b more.");
        Check.duePlace(onScreen(100, 100, "pad 5 4(block 3 2)"), 0, 0, 0, 13, 10);
        Check.duePlace(onScreen(100, 100, "pad 5 4"), 0, 0, 0, 10, 8);
        Check.duePlace(onScreen(9, 7, "pad 5 4"), 0, 0, 0, 9, 7);
        Check.duePlace(onScreen(100, 100, "pad 20 20"), 0, 0, 0, 40, 40);
        Check.duePlace(onScreen(100, 100, "pad 0 0"), 0, 0, 0, 0, 0);
        Check.duePlace(onScreen(100, 100, "limit 50 60 50 60(pad 5 4(block 1 1))"), 1, 0, 0, 50, 50);
    }

    private static void limits() {
        Edge.of(12, "b, d of 99: NO END;");
        Check.dueBounds(onScreen(100, 1000, "row 0 0(limit 0 99 0 99(block 1 1))"), 2, 0, 1000, 0, 1000);
        Check.dueBounds(onScreen(100, 1000, "row 0 0(limit 0 98 0 98(block 1 1))"), 2, 0, 98, 0, 98);
        Check.dueBounds(onScreen(100, 1000, "row 0 0(limit 99 99 99 99(block 1 1))"), 2, 99, 1000, 99, 1000);
        Edge.of(12, "the CHILD by BOUNDS from a to b, from c to d, each HELD by its own; at (0, 0);");
        Check.dueBounds(onScreen(50, 40, "limit 50 50 40 40(block 1 1)"), 1, 50, 50, 40, 40);
        Check.dueBounds(onScreen(50, 40, "limit 51 51 41 41(block 1 1)"), 1, 50, 50, 40, 40);
        Check.dueBounds(onScreen(50, 40, "limit 49 99 39 99(block 1 1)"), 1, 49, 50, 39, 40);
        Check.dueBounds(onScreen(100, 100, "limit 30 40 30 40(limit 10 20 50 60(block 1 1))"), 2, 30, 30, 40, 40);
        Check.dueBounds(onScreen(100, 100, "limit 30 40 30 40(limit 10 99 35 36(block 1 1))"), 2, 30, 40, 35, 36);
        Check.duePlace(onScreen(100, 100, "limit 30 40 30 40(block 35 1)"), 1, 0, 0, 35, 30);
        Edge.of(12, "the CHILD's SIZE (of none the leasts of these).");
        Check.duePlace(onScreen(100, 100, "limit 30 40 31 41(block 35 36)"), 0, 0, 0, 35, 36);
        Check.duePlace(onScreen(100, 100, "limit 30 40 31 41"), 0, 0, 0, 30, 31);
        Check.duePlace(onScreen(29, 100, "limit 30 40 31 41"), 0, 0, 0, 29, 31);
        Check.duePlace(onScreen(100, 100, "limit 35 99 35 99(limit 30 40 30 40)"), 1, 0, 0, 35, 35);
    }

    private static void centres() {
        Edge.of(12, "the CHILD LOOSE, in the middle (half of what is left, cut);");
        int[][] places = {{100, 0}, {99, 0}, {98, 1}, {97, 1}, {0, 50}, {1, 49}};
        for (int[] p : places) {
            LaidOutBoxes x = onScreen(100, 100, "centre(layers 0(pad 0 0(limit " + Math.min(99, p[0]) + " 99 0 0)))");
            due("a CHILD of " + p[0], x.at(1, 0), p[0] == 100 ? 0 : p[1]);
            LaidOutBoxes y = onScreen(100, 100, "centre(block " + Math.min(99, p[0]) + " " + Math.min(99, p[0]) + ")");
            due("x of " + p[0], y.at(1, 0), p[0] == 100 ? 0 : p[1]);
            due("y of " + p[0], y.at(1, 1), p[0] == 100 ? 0 : p[1]);
        }
        due("no room to be left", onScreen(7, 7, "centre(block 9 9)").at(1, 0), 0);
        Edge.of(12, "each of its most WIDE, most HIGH, or what the CHILD has (0 of none), if that is NO END.");
        Check.duePlace(onScreen(0, 0, "centre(block 5 5)"), 0, 0, 0, 0, 0);
        Check.duePlace(onScreen(100, 1000, "centre(block 5 6)"), 0, 0, 0, 100, 6);
        Check.duePlace(onScreen(100, 200, "row 0 0(centre(block 5 6))"), 1, 0, 0, 5, 200);
        Check.duePlace(onScreen(100, 1000, "row 0 0(centre(block 5 6))"), 1, 0, 0, 5, 6);
        Check.duePlace(onScreen(100, 1000, "row 0 0(centre)"), 1, 0, 0, 0, 0);
        Check.duePlace(onScreen(100, 100, "centre"), 0, 0, 0, 100, 100);
        LaidOutBoxes x = onScreen(100, 1000, "row 0 0(limit 20 99 30 99(centre(block 5 6)))");
        Check.duePlace(x, 2, 0, 0, 20, 30);
        Check.duePlace(x, 3, 7, 12, 5, 6);
    }

    private static void fits() {
        Edge.of(12, "q is the CHILD's GREATEST (0 of none), HELD; the CHILD by WIDE just q, HIGH as its own; at (0,"
                + " 0);");
        int[][] wides = {{25, 24}, {24, 24}, {23, 23}, {0, 0}};
        for (int[] w : wides) {
            Check.dueBounds(onScreen(w[0], 50, "fit(text 5 0)"), 1, w[1], w[1], 0, 50);
        }
        Check.dueBounds(onScreen(100, 100, "limit 30 40 7 8(fit(text 5 0))"), 2, 30, 30, 7, 8);
        Check.dueBounds(onScreen(100, 100, "fit(text 0 0)"), 1, 0, 0, 0, 100);
        Check.dueAt(onScreen(100, 100, "pad 3 3(fit(block 1 1))"), 2, 0, 0, 0, 3, 3);
        LaidOutBoxes wide = Check.tree("row 0 0(fit(row 0 20))");
        for (int i = 0; i < 8; i++) {
            wide.comes(2, 2, 20, 0, 0, 0);
            wide.tells(3 + i, 5, 99);
        }
        wide.comes(ROW, 3, 0, 20, 0, 0);
        for (int i = 0; i < 5; i++) {
            wide.comes(BLOCK, 11, 99, 1, 0, 0);
        }
        wide.lays();
        // 40 and 5 times 99 and 4 times 20, 7 times 99, 7 times 20
        due("GREATEST", wide.asks(2, 0), 40 + 495 + 80 + 693 + 140);
        due("HELD by NO END", wide.bounds(2, 0), 1000);
        Edge.of(12, "the CHILD's SIZE (of none q by the least HIGH).");
        Check.duePlace(onScreen(100, 100, "fit(block 7 8)"), 0, 0, 0, 7, 8);
        Check.duePlace(onScreen(100, 100, "fit"), 0, 0, 0, 0, 0);
        Check.duePlace(onScreen(100, 100, "limit 3 9 4 9(fit)"), 1, 0, 0, 3, 4);
    }

    private static void ratios() {
        Edge.of(12, "w is the most WIDE; if that is NO END, the most HIGH times a by b; if both are, 10a.");
        Check.duePlace(onScreen(60, 100, "ratio 3 2"), 0, 0, 0, 60, 40);
        Check.duePlace(onScreen(60, 100, "row 0 0(ratio 3 2)"), 1, 0, 0, 150, 100);
        Check.duePlace(onScreen(60, 99, "row 0 0(ratio 3 2)"), 1, 0, 0, 148, 98);
        Check.duePlace(onScreen(60, 1000, "row 0 0(ratio 3 2)"), 1, 0, 0, 30, 20);
        Check.duePlace(onScreen(60, 1000, "row 0 0(ratio 9 1)"), 1, 0, 0, 90, 10);
        Check.duePlace(onScreen(60, 1000, "row 0 0(ratio 1 9)"), 1, 0, 0, 10, 90);
        Check.duePlace(onScreen(60, 0, "row 0 0(ratio 3 2)"), 1, 0, 0, 0, 0);
        Edge.of(12, "h is w times b by a; is that more than the most HIGH, h is that and w is h times a by b (all"
                + " cut).");
        Check.duePlace(onScreen(60, 40, "ratio 3 2"), 0, 0, 0, 60, 40);
        Check.duePlace(onScreen(60, 39, "ratio 3 2"), 0, 0, 0, 58, 39);
        Check.duePlace(onScreen(61, 40, "ratio 3 2"), 0, 0, 0, 61, 40);
        Check.duePlace(onScreen(62, 40, "ratio 3 2"), 0, 0, 0, 60, 40);
        Check.duePlace(onScreen(0, 40, "ratio 3 2"), 0, 0, 0, 0, 0);
        Check.duePlace(onScreen(60, 0, "ratio 3 2"), 0, 0, 0, 0, 0);
        Check.duePlace(onScreen(8, 100, "ratio 9 1"), 0, 0, 0, 8, 0);
        Check.duePlace(onScreen(111, 1000, "ratio 1 9"), 0, 0, 0, 111, 999);
        Check.duePlace(onScreen(112, 1000, "ratio 1 9"), 0, 0, 0, 111, 1000);
        Edge.of(12, "w by h, HELD; the CHILD by JUST that, at (0, 0).");
        LaidOutBoxes x = onScreen(100, 100, "limit 0 50 40 99(ratio 9 1(block 1 1))");
        Check.duePlace(x, 1, 0, 0, 50, 40);
        Check.dueBounds(x, 2, 50, 50, 40, 40);
        Check.duePlace(x, 2, 0, 0, 50, 40);
        LaidOutBoxes y = onScreen(50, 200, "row 0 0(ratio 6 1(block 1 1))");
        Check.dueBounds(y, 2, 1000, 1000, 200, 200);
        LaidOutBoxes z = onScreen(50, 200, "row 0 0(ratio 5 1(block 1 1))");
        Check.dueBounds(z, 2, 1000, 1000, 200, 200);
        Check.dueBounds(onScreen(50, 199, "row 0 0(ratio 5 1(block 1 1))"), 2, 995, 995, 199, 199);
    }

    private static void layers() {
        Edge.of(12, "each LOOSE; the greatest WIDE by the greatest HIGH (0 of none);");
        Check.duePlace(onScreen(100, 100, "layers 0(block 9 1,block 1 8,block 3 3)"), 0, 0, 0, 9, 8);
        Check.duePlace(onScreen(100, 100, "layers 0"), 0, 0, 0, 0, 0);
        Check.duePlace(onScreen(100, 100, "limit 5 9 6 9(layers 2)"), 1, 0, 0, 5, 6);
        Check.duePlace(onScreen(4, 4, "layers 0(block 9 1,block 1 8)"), 0, 0, 0, 4, 4);
        LaidOutBoxes eight = onScreen(100, 100, "layers 0(fit,fit,fit,fit,fit,fit,fit,block 7 7)");
        Check.duePlace(eight, 0, 0, 0, 7, 7);
        Edge.of(12, "each CHILD at 0 (a 0), half of what is left, cut (1), all of it (2), both ways.");
        int[][] places = {{0, 0}, {2, 1}, {5, 3}};
        for (int a = 0; a <= 2; a++) {
            LaidOutBoxes x = onScreen(100, 100, "layers " + a + "(block 9 8,block 4 5)");
            Check.dueAt(x, 1, 0, 0, 0);
            Check.dueAt(x, 2, 0, places[a][0], places[a][1]);
        }
        Check.dueAt(onScreen(100, 100, "limit 10 99 11 99(layers 2(block 1 1))"), 2, 0, 9, 10);
    }

    private static void acrossBounds() {
        Edge.of(12, "ALONG is WIDE, ACROSS HIGH;");
        Check.duePlace(onScreen(100, 100, "row 0 1(block 3 4,block 5 6)"), 2, 4, 0, 5, 6);
        Check.duePlace(onScreen(100, 100, "column 0 1(block 3 4,block 5 6)"), 2, 0, 5, 5, 6);
        Edge.of(12, "ACROSS each CHILD has 0 to the most ACROSS; if a is 3, and that isn't NO END, just that.");
        for (int a = 0; a <= 4; a++) {
            Check.dueBounds(onScreen(60, 70, "row " + a + " 0(block 3 4)"), 1, 0, 1000, a == 3 ? 70 : 0, 70);
            Check.dueBounds(onScreen(60, 70, "column " + a + " 0(block 3 4)"), 1, a == 3 ? 60 : 0, 60, 0, 1000);
            Check.dueBounds(onScreen(60, 1000, "row " + a + " 0(block 3 4)"), 1, 0, 1000, 0, 1000);
            Check.dueBounds(onScreen(60, 70, "row 0 0(column " + a + " 0(block 3 4))"), 2, 0, 1000, 0, 1000);
            Check.dueBounds(onScreen(60, 70, "limit 9 99 9 99(row " + a + " 0(block 3 4))"), 2, 0, 1000, a == 3 ? 70 : 0, 70);
        }
        Check.dueBounds(onScreen(0, 0, "row 3 0(block 3 4)"), 1, 0, 1000, 0, 0);
        Edge.of(12, "M is the most ALONG. Between each two is b.");
        Check.duePlace(onScreen(100, 100, "row 0 20"), 0, 0, 0, 0, 0);
        Check.duePlace(onScreen(100, 100, "row 0 20(block 1 1)"), 0, 0, 0, 1, 1);
        Check.duePlace(onScreen(100, 100, "row 0 20(block 1 1,block 1 1)"), 0, 0, 0, 22, 1);
        Check.duePlace(onScreen(200, 100, "row 0 20(fit,fit,fit,fit,fit,fit,fit,fit)"), 0, 0, 0, 140, 0);
        Check.duePlace(onScreen(100, 200, "column 0 20(fit,fit,fit,fit,fit,fit,fit,fit)"), 8, 0, 140, 0, 0);
    }

    private static void withoutShare() {
        Edge.of(12, "CHILDREN without SHARE (all, if M is NO END), in order: ALONG from LEAST to MOST.");
        LaidOutBoxes x = Check.tree("row 0 0(block 10 5,block 10 5*9)");
        x.tells(1, 5, 12);
        x.tells(1, 6, 12);
        x.lays();
        Check.dueBounds(x, 1, 12, 12, 0, 100);
        due("with SHARE what is left", x.at(2, WIDE), 88);
        LaidOutBoxes y = Check.tree("column 0 0(block 10 5*9,block 10 5*1)");
        y.tells(1, 5, 7);
        y.tells(2, 6, 4);
        y.screen(100, 1000);
        y.lays();
        Check.dueBounds(y, 1, 0, 100, 7, 1000);
        Check.dueBounds(y, 2, 0, 100, 0, 4);
        Check.dueAt(y, 0, 4, 10, 11, 0, 0);
        y.screen(100, 200);
        y.lays();
        Check.dueAt(y, 0, 4, 10, 200, 0, 2);
    }

    private static void room() {
        Edge.of(12, "Then, if there are others, ROOM is M less all these and each b (0 at least), in ROUNDS, none of"
                + " the others being FROZEN at first:");
        int[][] rooms = {{32, 20}, {13, 1}, {12, 0}, {11, 0}, {0, 0}};
        for (int[] r : rooms) {
            LaidOutBoxes x = onScreen(r[0], 9, "row 0 1(block 9 1,block 5 1*3,block 1 1)");
            due("ROOM of " + r[0], x.at(2, WIDE), r[1]);
            due("a ROUND", x.at(0, ROUNDS), 1);
        }
        due("no others, no ROUNDS", onScreen(50, 9, "row 0 1(block 9 1)").at(0, ROUNDS), 0);
        due("no CHILDREN, no ROUNDS", onScreen(50, 9, "row 0 1").at(0, ROUNDS), 0);
        due("others alone", onScreen(50, 9, "row 0 0(block 9 1*1)").at(1, WIDE), 50);
    }

    private static int widesOf(LaidOutBoxes x, int first, int count) {
        int wides = 0;
        for (int i = 0; i < count; i++) {
            wides = 1000 * wides + x.at(first + i, WIDE);
        }
        return wides;
    }

    private static void rounds() {
        Edge.of(12, "each that isn't FROZEN gets REST times SHARE by all SHARES of such ones, cut; what is left over"
                + " goes to them by 1 in order; then it is HELD by LEAST and MOST.");
        int[][] parts = {{0, 0}, {1, 1000000}, {2, 1001000}, {3, 1001001}, {4, 2001001}, {5, 2002001}};
        for (int[] p : parts) {
            due("of " + p[0], widesOf(onScreen(p[0], 9, "row 0 0(fit*1,fit*1,fit*1)"), 1, 3), p[1]);
        }
        due("10 by 9, 1, 1", widesOf(onScreen(10, 9, "row 0 0(fit*9,fit*1,fit*1)"), 1, 3), 9001000);
        due("10 by 1, 1, 9", widesOf(onScreen(10, 9, "row 0 0(fit*1,fit*1,fit*9)"), 1, 3), 1001008);
        LaidOutBoxes mixed = onScreen(11, 9, "row 0 0(block 5 1,fit*2,block 1 1,fit*2)");
        due("who has no SHARE gets none of it", widesOf(mixed, 2, 3), 3001002);
        LaidOutBoxes eight = onScreen(199, 9, "row 0 0(fit*9,fit*9,fit*9,fit*9,fit*9,fit*9,fit*9,fit*9)");
        due("24 and one more each but the last", eight.at(1, WIDE) * 10000 + eight.at(7, WIDE) * 100 + eight.at(8, WIDE), 252524);
        Edge.of(12, "REST is ROOM less what FROZEN ones have (0 at least);");
        LaidOutBoxes x = Check.tree("row 0 0(fit*1,fit*1)");
        x.tells(1, 5, 99);
        x.screen(90, 9);
        x.lays();
        due("LEAST beyond ROOM leaves 0", widesOf(x, 1, 2), 99000);
        due("in two ROUNDS", x.at(0, ROUNDS), 2);
        x.tells(2, 5, 1);
        x.lays();
        due("and then a LEAST of its own", widesOf(x, 1, 2), 99001);
        due("in two ROUNDS", x.at(0, ROUNDS), 2);
        x.screen(99, 9);
        x.tells(2, 5, 0);
        x.lays();
        due("all of it is FROZEN", widesOf(x, 1, 2) * 10 + x.at(0, ROUNDS), 990002);
        LaidOutBoxes y = Check.tree("row 0 0(fit*1,fit*1,fit*1)");
        y.tells(1, 5, 99);
        y.tells(2, 5, 1);
        y.screen(90, 9);
        y.lays();
        // a REST below 0 would be less than the last one's LEAST of 0, and freeze it with the second
        due("of a REST of 0 the last one isn't HELD", widesOf(y, 1, 3) * 10L + y.at(0, ROUNDS), 990010003L);
    }

    private static void freezing() {
        Edge.of(12, "Do all together get as much HELD as without that, all are FROZEN so;");
        LaidOutBoxes x = Check.tree("row 0 0(fit*1,fit*1)");
        x.tells(1, 5, 60);
        x.tells(2, 6, 40);
        x.lays();
        due("10 more, 10 less", widesOf(x, 1, 2) * 10 + x.at(0, ROUNDS), 600401);
        due("nobody HELD", onScreen(100, 9, "row 0 0(fit*1,fit*1)").at(0, ROUNDS), 1);
        Edge.of(12, "do they get more, those are that get their LEAST by that;");
        x.tells(1, 5, 61);
        x.lays();
        due("11 more, 10 less: the LEAST first", widesOf(x, 1, 2) * 10 + x.at(0, ROUNDS), 610392);
        LaidOutBoxes y = Check.tree("row 0 0(fit*1,fit*1,fit*2)");
        y.tells(1, 5, 25);
        y.tells(2, 5, 28);
        y.lays();
        due("who has its LEAST without that isn't FROZEN", y.at(0, ROUNDS), 3);
        due("its part is 24 then, so it is HELD, too", widesOf(y, 1, 3), 25028047);
        Edge.of(12, "less, those that get their MOST by that. So on, till all are FROZEN; then each, in order, is"
                + " LAID by just that ALONG.");
        x.tells(1, 5, 60);
        x.tells(2, 6, 39);
        x.lays();
        due("10 more, 11 less: the MOST first", widesOf(x, 1, 2) * 10 + x.at(0, ROUNDS), 610392);
        Check.dueBounds(x, 1, 61, 61, 0, 100);
        Check.dueBounds(x, 2, 39, 39, 0, 100);
        LaidOutBoxes z = Check.tree("row 0 0(fit*1,fit*1,fit*1,fit*1,fit*1,fit*1,fit*1,fit*1)");
        int[] leasts = {10, 15, 20, 25, 30, 35, 40, 0};
        for (int i = 0; i < 8; i++) {
            z.tells(1 + i, 5, leasts[i]);
        }
        z.screen(160, 9);
        z.lays();
        due("four of them, then three, then the last", z.at(0, ROUNDS), 3);
        due("for which nothing is left", z.at(8, WIDE), 0);
        due("OVER", z.at(0, OVER), 15);
        z.tells(1, 6, 10);
        z.lays();
        due("a MOST that is the LEAST", z.at(1, WIDE), 10);
    }

    private static void asDeepAsCanBe() {
        Edge.of(12, "A BOX is LAID by BOUNDS");
        for (int kind = 2; kind <= 9; kind++) {
            LaidOutBoxes x = new LaidOutBoxes();
            for (int i = 0; i < 23; i++) {
                x.comes(kind, i - 1, kind == 3 ? 0 : 1, kind == 3 ? 99 : 1, 0, 99);
            }
            x.comes(TEXT, 22, 1, 2, 0, 0);
            due("24 deep, KIND " + kind, x.lays(), 24);
            due("the deepest has its SIZE", x.at(23, WIDE) > 0 && x.at(23, HIGH) > 0 ? 1 : 0, 1);
            due("GREATEST through all of them", x.asks(0, 0), kind == 2 ? 46 + 8 : kind == 6 ? 10 : 8);
            due("a BASE through all of them", x.at(0, BASE), x.at(23, 3) + 1);
            due("the deepest is at its point", x.hit(x.at(23, 2), x.at(23, 3)), 23);
            due("reached through all of them", x.reached(23, 0), kind == 6 ? 1 << 23 : 0xFFFFFF);
            due("all of them are gone", x.drops(0), 24);
        }
        LaidOutBoxes based = Check.tree("row 4 0");
        for (int i = 1; i < 23; i++) {
            based.comes(2, i - 1, 1, 1, 0, 0);
        }
        based.comes(TEXT, 22, 1, 2, 0, 0);
        based.lays();
        due("BASED, all below the ROW", based.of(1, 13) * 10 + based.of(23, 13), 11);
        due("the greatest ABOVE", based.at(0, BASE), 23);
    }

    private static void alongAndOver() {
        Edge.of(12, "T is all together with each b. ALONG it is M, if it has others and M isn't NO END, else T, HELD;");
        Check.dueAt(onScreen(100, 9, "row 0 5(block 5 1,block 5 1)"), 0, WIDE, 15, 1);
        Check.dueAt(onScreen(100, 9, "row 0 5(block 5 1,block 5 1*1)"), 0, WIDE, 100, 1);
        LaidOutBoxes x = Check.tree("row 0 5(block 5 1,block 5 1*1)");
        x.tells(2, 6, 5);
        x.lays();
        Check.dueAt(x, 0, WIDE, 100, 1, 0, 1);
        Check.dueAt(onScreen(100, 1000, "column 0 5(block 5 1,block 5 1*1)"), 0, WIDE, 5, 7, 0, 0);
        Check.dueAt(onScreen(100, 9, "limit 40 50 0 9(row 0 5(block 5 1,block 5 1))"), 1, WIDE, 40, 1);
        Check.dueAt(onScreen(14, 9, "row 0 5(block 5 1,block 5 1)"), 0, WIDE, 14, 1);
        Edge.of(13, "OVER is T less that (0 at least; of other KINDS 0).");
        int[][] overs = {{16, 0}, {15, 0}, {14, 1}, {0, 15}};
        for (int[] o : overs) {
            due("WIDE " + o[0], onScreen(o[0], 9, "row 0 5(block 5 1,block 5 1)").at(0, OVER), o[1]);
            due("HIGH " + o[0], onScreen(9, o[0], "column 0 5(block 1 5,block 1 5)").at(0, OVER), o[1]);
        }
        due("with a SHARE", onScreen(9, 9, "row 0 5(block 5 1,block 5 1*1)").at(0, OVER), 1);
        due("ACROSS doesn't count", onScreen(99, 1, "row 0 5(block 5 9,block 5 9)").at(0, OVER), 0);
        due("0 at least", onScreen(100, 9, "limit 90 99 0 9(row 0 0(block 5 1))").at(1, OVER), 0);
        String[] others = {"block 9 9", "text 9 9", "pad 9 9", "limit 9 9 9 9", "centre", "fit", "ratio 1 1", "layers 0"};
        for (String other : others) {
            boolean takes = !other.startsWith("block") && !other.startsWith("text");
            due(other, onScreen(1, 1, takes ? other + "(block 99 99)" : other).at(0, OVER), 0);
        }
        due("more than NO END", overNoEnd(), 200);
    }

    /** A ROW of six RATIOS of 200 each in a ROW: 1200 in all. */
    private static int overNoEnd() {
        LaidOutBoxes x = Check.tree("row 0 0(row 0 0(ratio 1 1,ratio 1 1,ratio 1 1,ratio 1 1,ratio 1 1,ratio 1 1))");
        x.screen(100, 200);
        x.lays();
        due("WIDE is NO END", x.at(1, WIDE), 1000);
        due("OVER of who holds it", x.at(0, OVER), 900);
        return x.at(1, OVER);
    }

    private static void places() {
        Edge.of(12, "ACROSS the greatest (0 of none). ALONG one CHILD behind the other from 0 on.");
        LaidOutBoxes x = onScreen(100, 100, "row 0 3(block 4 9,block 0 2,block 6 4)");
        due("HIGH", x.at(0, HIGH), 9);
        due("x", x.at(1, 0) * 10000 + x.at(2, 0) * 100 + x.at(3, 0), 710);
        due("none", onScreen(100, 100, "column 0 3").at(0, WIDE), 0);
        due("beyond the end", onScreen(5, 100, "row 0 3(block 4 9,block 1 2)").at(2, 0), 7);
        Edge.of(12, "ACROSS at 0 (a 0, 3; a COLUMN's 4), half of what is left, cut (1), all of it (2);");
        int[] places = {0, 2, 5, 0, 0};
        for (int a = 0; a <= 4; a++) {
            String in = " 0(block 9 9,block 4 4)";
            due("x in a COLUMN, a " + a, onScreen(100, 100, "column " + a + in).at(2, 0), a == 3 ? 0 : places[a]);
            if (a < 4) {
                due("y in a ROW, a " + a, onScreen(100, 100, "row " + a + in).at(2, 1), places[a]);
            }
        }
        due("of what the BOUNDS leave, too", onScreen(100, 100, "limit 0 99 20 99(row 2 0(block 9 9))").at(2, 1), 11);
        due("nothing left", onScreen(100, 4, "row 1 0(block 9 9,block 4 4)").at(2, 1), 0);
    }

    private static void standing() {
        Edge.of(12, "a ROW's 4: ABOVE is a CHILD's BASE, or its HIGH, if it has none, BELOW its HIGH less that;");
        LaidOutBoxes x = onScreen(100, 100, "row 4 0(pad 0 3(text 1 0),block 1 2,text 1 0)");
        // ABOVE 4, 2, 1, BELOW 4, 0, 1
        due("HIGH", x.at(0, HIGH), 8);
        due("y", x.at(1, 1) * 100 + x.at(3, 1) * 10 + x.at(4, 1), 23);
        Edge.of(12, "the ROW is as HIGH as the greatest ABOVE and BELOW (0 at least each) together, HELD, each CHILD"
                + " as far down as ABOVE is less than the greatest.");
        Check.duePlace(onScreen(100, 100, "row 4 9"), 0, 0, 0, 0, 0);
        LaidOutBoxes y = onScreen(100, 0, "row 4 0(text 1 0,pad 0 20(text 1 0))");
        // all are 0 HIGH: ABOVE 1 and 21, BELOW -1 and -21
        Check.duePlace(y, 0, 0, 0, 2, 0);
        Check.dueAt(y, 1, 0, 0, 20);
        Check.dueAt(y, 2, 0, 1, 0);
        due("BASE", y.at(0, BASE), 21);
        Check.duePlace(onScreen(100, 30, "row 4 0(text 1 0,pad 0 20(text 1 0))"), 0, 0, 0, 2, 30);
        Check.duePlace(onScreen(100, 100, "limit 0 99 50 99(row 4 0(text 1 0))"), 1, 0, 0, 1, 50);
        due("of a BLOCK without HIGH", onScreen(100, 100, "row 4 0(block 5 0)").at(0, BASE), 0);
    }

    private static void bases() {
        Edge.of(13, "BASE of a BOX, as LAID last: of a TEXT that had words 1;");
        LaidOutBoxes x = Check.tree("text 1 0");
        due("never LAID", x.at(0, BASE), NO_SUCH);
        x.lays();
        due("one word", x.at(0, BASE), 1);
        x.tells(0, 0, 0);
        due("as LAID last", x.at(0, BASE), 1);
        x.lays();
        due("no word", x.at(0, BASE), NO_SUCH);
        x.tells(0, 0, 12);
        due("as LAID last", x.at(0, BASE), NO_SUCH);
        due("of 0 by 0, too", onScreen(0, 0, "text 1 0").at(0, BASE), 1);
        Edge.of(13, "of a ROW whose a was 4 the greatest ABOVE (if it had CHILDREN, else none);");
        LaidOutBoxes y = Check.laidTree("row 4 0(block 1 7,text 1 0)");
        due("the greatest ABOVE", y.at(0, BASE), 7);
        y.drops(1);
        due("as LAID last", y.at(0, BASE), 7);
        y.tells(0, 0, 1);
        due("whose a was 4", y.at(0, BASE), 7);
        y.lays();
        due("whose a was 1", y.at(0, BASE), 1);
        y.tells(0, 0, 4);
        y.drops(2);
        y.lays();
        due("without CHILDREN", y.at(0, BASE), NO_SUCH);
        y.comes(TEXT, 0, 1, 1, 0, 0);
        due("as LAID last", y.at(0, BASE), NO_SUCH);
        due("a COLUMN's 4 is none", Check.laidTree("column 4 0(block 1 7,text 1 0)").at(0, BASE), 8);
        Edge.of(13, "of a BLOCK, a TEXT without words, one never LAID none;");
        due("a BLOCK", Check.laidTree("block 9 9").at(0, BASE), NO_SUCH);
        due("a TEXT without words", Check.laidTree("text 0 9").at(0, BASE), NO_SUCH);
        due("never LAID", Check.tree("row 4 0(text 1 1)").at(0, BASE), NO_SUCH);
        LaidOutBoxes z = Check.laidTree("pad 1 1");
        z.comes(TEXT, 0, 1, 1, 0, 0);
        due("its CHILD was never LAID", z.at(0, BASE), NO_SUCH);
        Edge.of(13, "else, of all other KINDS, y and BASE of its first CHILD that has one; none.");
        String[] holders = {"pad 2 3", "limit 1 50 9 50", "centre", "fit", "ratio 1 1", "layers 2", "row 2 0", "column 0 0"};
        int[] bases = {4, 1, 50, 1, 1, 1, 1, 1};
        for (int i = 0; i < holders.length; i++) {
            due(holders[i], Check.laidTree(holders[i] + "(text 1 0)").at(0, BASE), bases[i]);
            due(holders[i] + " of a BLOCK", Check.laidTree(holders[i] + "(block 1 1)").at(0, BASE), NO_SUCH);
            due(holders[i] + " of none", Check.laidTree(holders[i]).at(0, BASE), NO_SUCH);
        }
        due("the first that has one", Check.laidTree("column 0 1(block 1 5,pad 1 2(fit),pad 1 2(text 1 0),text 1 0)").at(0, BASE),
                5 + 1 + 4 + 1 + 2 + 1);
    }

    private static void asked() {
        Edge.of(15, "GREATEST, NARROW of a BOX: BLOCK a; TEXT all words in a line, the widest word (0 of none);");
        String[] trees = {"block 0 9", "block 99 0", "text 0 5", "text 1 2", "text 2 31", "text 12 31"};
        int[][] answers = {{0, 0}, {99, 99}, {0, 0}, {8, 8}, {10, 8}, {55, 8}};
        dueAsked(trees, answers);
        Edge.of(15, "PAD the CHILD's (0 of none) and 2a; LIMIT the CHILD's HELD by a, b; CENTRE the CHILD's;");
        dueAsked(new String[] {"pad 20 9", "pad 0 9", "pad 20 9(text 2 31)", "limit 0 0 0 0", "limit 9 20 0 0",
            "limit 9 9 0 0(text 2 31)", "limit 10 10 0 0(text 2 31)", "limit 0 99 0 0(pad 20 0(row 0 20(block 99 1,block 99 1)))",
            "limit 0 98 0 0(pad 20 0(row 0 20(block 99 1,block 99 1)))", "centre", "centre(text 2 31)"},
                new int[][] {{40, 40}, {0, 0}, {50, 48}, {0, 0}, {9, 9}, {9, 9}, {10, 10}, {258, 258}, {98, 98}, {0, 0}, {10, 8}});
        Edge.of(15, "FIT the CHILD's GREATEST (both); RATIO 10a, a; LAYERS, COLUMN the greatest of CHILDREN's;");
        dueAsked(new String[] {"fit", "fit(text 2 31)", "ratio 1 9", "ratio 9 1(block 99 99)", "layers 2", "column 0 20",
            "layers 0(text 2 31,block 9 1)", "column 0 20(text 2 31,block 9 1)"},
                new int[][] {{0, 0}, {10, 10}, {10, 1}, {90, 9}, {0, 0}, {0, 0}, {10, 9}, {10, 9}});
        LaidOutBoxes x = Check.tree("column 0 0(block 9 1)");
        x.tells(1, 5, 50);
        due("a COLUMN's aren't HELD", x.asks(0, 0), 9);
    }

    private static void dueAsked(String[] trees, int[][] answers) {
        for (int i = 0; i < trees.length; i++) {
            due("GREATEST of " + trees[i], Check.tree(trees[i]).asks(0, 0), answers[i][0]);
            due("NARROW of " + trees[i], Check.tree(trees[i]).asks(0, 1), answers[i][1]);
        }
    }

    private static void askedTogether() {
        Edge.of(15, "ROW the CHILDREN's, each HELD by LEAST, MOST, together, with each b between.");
        dueAsked(new String[] {"row 0 20", "row 0 20(text 2 31)", "row 0 20(text 2 31,block 9 1)", "row 0 0(block 0 0,block 0 0)"},
                new int[][] {{0, 0}, {10, 8}, {39, 37}, {0, 0}});
        LaidOutBoxes x = Check.tree("row 0 1(block 10 1,block 10 1,block 10 1,pad 1 1(row 0 20(block 99 1,block 99 1)))");
        x.tells(1, 5, 11);
        x.tells(2, 6, 9);
        x.tells(3, 5, 10);
        x.tells(3, 6, 10);
        due("11, 9, 10 and 220 of NO END", x.asks(0, 0), 11 + 9 + 10 + 220 + 3);
        x.tells(4, 6, 98);
        due("11, 9, 10 and 98", x.asks(0, 0), 11 + 9 + 10 + 98 + 3);
        due("a SHARE doesn't matter", x.tells(1, 4, 9) + x.asks(0, 1), 131);
    }

    private static void memos() {
        Edge.of(15, "What is ASKED so of a BOX (by a FIT, by another BOX that is ASKED, by a call) is a MEMO of it,"
                + " not ASKED again while it is there.");
        LaidOutBoxes x = Check.tree("fit(pad 1 1(block 5 5))");
        x.lays();
        due("by a FIT, and by who is asked", x.of(0, 12) * 100 + x.of(1, 12) * 10 + x.of(2, 12), 11);
        due("two made", x.told(13), 2);
        x.asks(1, 0);
        due("not again", x.told(13), 2);
        x.asks(0, 1);
        due("a FIT's NARROW is of its CHILD's GREATEST", x.told(13) * 100 + x.of(0, 12) * 10 + x.of(1, 12), 321);
        x.asks(0, 0);
        due("its GREATEST is one more", x.told(13), 4);
        x.asks(1, 1);
        due("NARROW by a call, and of who is asked", x.told(13), 6);
        due("all of them", x.of(0, 12) * 100 + x.of(1, 12) * 10 + x.of(2, 12), 333);
        x.screen(50, 50);
        x.lays();
        due("laid anew, not asked again", x.told(13), 6);
        x.tells(2, 0, 6);
        due("no more", x.of(0, 12) + x.of(1, 12) + x.of(2, 12), 0);
        due("another answer", x.asks(1, 1), 8);
        x.lays();
        due("two by the call, two by the FIT", x.told(13), 10);
        due("a RATIO doesn't ask its CHILD", ratioAsks(), 1);
    }

    private static int ratioAsks() {
        LaidOutBoxes x = Check.tree("ratio 2 1(block 5 5)");
        x.asks(0, 0);
        due("its CHILD has no MEMO", x.of(1, 12), 0);
        return x.told(13);
    }
}
