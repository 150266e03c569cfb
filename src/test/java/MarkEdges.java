/** Edges of MARKED, THE LIST, LAID OUT and BASED, and of promises 12 to 17. */
final class MarkEdges {
    private static final int NONE = -1, NO_SUCH = -5;
    private static final int LOWEST = Integer.MIN_VALUE, HIGHEST = Integer.MAX_VALUE;
    /** 2 is LAID by JUST 5 by 5, 3 isn't. */
    private static final String JUST = "pad 0 0(limit 5 5 5 5(layers 0(block 1 1)))";

    private MarkEdges() {
    }

    static void all() {
        marked();
        markedByMemos();
        whoIsMarked();
        screenTold();
        markedAgain();
        laidOut();
        laidBy();
        skipsAndVisits();
        based();
        lays();
        at();
        bounds();
        asks();
        points();
        told();
        toldOfTheLatest();
    }

    private static void due(String what, long got, long want) {
        Edge.due(what, got, want);
    }

    /** Who is DIRTY, who is on THE LIST. */
    private static void dueMarked(String what, LaidOutBoxes x, int dirty, int list) {
        due(what + ", DIRTY", x.told(4), dirty);
        due(what + ", THE LIST", x.told(5), list);
    }

    private static void marked() {
        Edge.of(3, "MARKED: a BOX is DIRTY; is it THE TOP, or were its BOUNDS JUST as it was LAID last, it has no"
                + " MEMO and isn't BASED, it is on THE LIST, else its PARENT is MARKED, too;");
        LaidOutBoxes x = Check.tree(JUST);
        x.tells(2, 0, 1);
        dueMarked("never LAID", x, 15, 1);
        x.lays();
        dueMarked("LAID OUT", x, 0, 0);
        x.tells(2, 0, 1);
        dueMarked("JUST", x, 4, 4);
        x.lays();
        x.tells(3, 0, 2);
        dueMarked("in who was LAID by JUST that", x, 12, 4);
        x.lays();
        x.tells(1, 0, 5);
        dueMarked("neither", x, 3, 1);
        x.tells(1, 0, 4);
        x.tells(2, 0, 0);
        dueMarked("JUST as it was LAID last, whatever was told", x, 7, 5);
        x.lays();
        x.tells(2, 0, 1);
        dueMarked("not JUST any more", x, 7, 1);
        LaidOutBoxes top = Check.laidTree("centre");
        due("THE TOP", top.comes(0, 0, 1, 1, 0, 0), 1);
        dueMarked("THE TOP", top, 3, 1);
        LaidOutBoxes base = Check.laidTree("row 4 0(limit 5 5 5 5(layers 0(text 1 1)))");
        base.tells(3, 0, 2);
        dueMarked("BASED", base, 15, 1);
    }

    private static void markedByMemos() {
        Edge.of(3, "its MEMOS are no more (behind that was looked at).");
        for (int what = 0; what <= 1; what++) {
            LaidOutBoxes x = Check.laidTree(JUST);
            x.asks(2, what);
            x.tells(3, 0, 2);
            dueMarked("a MEMO lets it go on", x, 15, 1);
            due("no MEMOS", x.of(2, 12) + x.of(3, 12), 0);
            x.tells(3, 0, 2);
            dueMarked("without it it doesn't", x, 15, 5);
            x.lays();
            x.asks(0, what);
            x.tells(0, 0, 0);
            dueMarked("THE TOP's doesn't matter", x, 1, 1);
            due("it is no more", x.of(0, 12), 0);
            due("of others it stays", x.of(1, 12), 1 + what);
            x.tells(1, 0, 5);
            due("of the PARENT, too, it is no more", x.of(0, 12) + x.of(1, 12), 0);
            due("of CHILDREN it stays", x.of(2, 12), 1 + what);
        }
    }

    private static void whoIsMarked() {
        Edge.of(3, "MARKED are: a BOX, as one of its numbers is told (alike, too);");
        LaidOutBoxes x = Check.laidTree("row 0 0(limit 1 2 3 4(block 1 1),block 5 5)");
        for (int what = 0; what <= 3; what++) {
            x.tells(1, what, x.of(1, 3 + what));
            dueMarked("number " + what + " alike", x, 3, 1);
            x.lays();
        }
        Edge.of(3, "its PARENT, as its SHARE, LEAST, MOST are;");
        for (int what = 4; what <= 6; what++) {
            x.tells(1, what, x.of(1, 3 + what));
            dueMarked(what + " alike", x, 1, 1);
            x.lays();
            x.tells(2, what, 50 % (what == 4 ? 9 : 99));
            dueMarked(what + " of whose PARENT is a LIMIT", x, 3, 1);
            x.lays();
            x.tells(0, what, x.of(0, 3 + what));
            dueMarked(what + " of THE TOP", x, 0, 0);
        }
        Edge.of(3, "who gets a CHILD, loses one, has them in another order; a new TOP.");
        x.comes(0, 0, 1, 1, 0, 0);
        dueMarked("gets one", x, 1 + 16, 1);
        x.lays();
        x.drops(4);
        dueMarked("loses one", x, 1, 1);
        x.lays();
        x.moves(1, 1);
        dueMarked("in another order", x, 1, 1);
        x.lays();
        x.moves(1, 1);
        dueMarked("in no other order", x, 0, 0);
        x.drops(0);
        dueMarked("nobody is left", x, 0, 0);
        x.comes(4, -1, 0, 0, 0, 0);
        dueMarked("a new TOP", x, 32, 32);
    }

    private static void screenTold() {
        Edge.of(6, "As THE SCREEN is told, THE TOP is DIRTY and on THE LIST.");
        LaidOutBoxes x = new LaidOutBoxes();
        x.screen(50, 50);
        dueMarked("without TOP", x, 0, 0);
        Check.read(x, -1, JUST);
        x.lays();
        x.asks(0, 1);
        x.screen(50, 50);
        dueMarked("alike", x, 1, 1);
        due("that is no marking: its MEMO stays", x.of(0, 12), 2);
        due("laid", x.lays() * 10 + x.told(8), 11);
        x.screen(201, 50);
        dueMarked("refused", x, 0, 0);
    }

    private static void markedAgain() {
        Edge.of(3, "MARKED is a BOX that is DIRTY already all over again (its MEMOS go, THE LIST or its PARENT"
                + " likewise).");
        LaidOutBoxes x = Check.laidTree(JUST);
        x.tells(3, 0, 2);
        x.tells(3, 0, 3);
        dueMarked("once more", x, 12, 4);
        x.asks(2, 0);
        due("a DIRTY one is asked", x.of(2, 12), 1);
        x.tells(3, 0, 4);
        dueMarked("its PARENT, too, now", x, 15, 5);
        due("its MEMO is gone", x.of(2, 12), 0);
        due("all are laid once", x.lays() * 10 + x.told(8), 40);
    }

    private static LaidOutBoxes ratios() {
        LaidOutBoxes x = new LaidOutBoxes();
        for (int i = 0; i < 24; i++) {
            x.comes(6, i - 1, 1, 1, 0, 0);
        }
        return x;
    }

    private static void laidOut() {
        Edge.of(12, "LAID OUT: BOXES on THE LIST, by how deep they are (THE TOP 0), of alike ones by numbers, each"
                + " that is DIRTY still:");
        LaidOutBoxes x = ratios();
        due("24 deep", x.lays(), 24);
        for (int i = 23; i >= 0; i--) {
            x.tells(i, 0, 1);
        }
        dueMarked("each was LAID by JUST that", x, 0xFFFFFF, 0xFFFFFF);
        due("once each, from THE TOP on", x.lays(), 24);
        due("without SKIPS", x.told(8), 0);
        x.tells(23, 0, 1);
        due("the deepest alone", x.lays() * 10 + x.told(8), 10);
        x.tells(22, 0, 1);
        x.tells(20, 0, 1);
        due("two of them", x.lays() * 10 + x.told(8), 22);
        due("nothing", x.lays() * 10 + x.told(8), 0);
        LaidOutBoxes y = Check.laidTree("layers 0(ratio 1 1(block 1 1),ratio 1 1(block 1 1))");
        y.tells(4, 0, 9);
        y.tells(2, 0, 9);
        dueMarked("alike ones", y, 20, 20);
        due("both", y.lays() * 10 + y.told(8), 20);
    }

    private static void laidBy() {
        Edge.of(12, "THE TOP by 0 to THE SCREEN's WIDE, 0 to its HIGH, another by the BOUNDS it had; then THE LIST is"
                + " empty.");
        LaidOutBoxes x = Check.onScreen(0, 1000, JUST);
        Check.dueBounds(x, 0, 0, 0, 0, 1000);
        x.screen(200, 0);
        x.lays();
        Check.dueBounds(x, 0, 0, 200, 0, 0);
        Check.dueBounds(x, 2, 5, 5, 0, 0);
        x.screen(200, 200);
        x.lays();
        x.tells(3, 0, 9);
        x.lays();
        Check.dueBounds(x, 2, 5, 5, 5, 5);
        due("THE LIST", x.told(5), 0);
        x.tells(1, 1, 6);
        x.tells(2, 0, 1);
        dueMarked("both", x, 7, 5);
        due("2 by the BOUNDS it gets, once, its CHILD, too", x.lays() * 10 + x.told(8), 40);
        Check.dueBounds(x, 2, 5, 6, 5, 5);
        due("THE LIST", x.told(5), 0);
    }

    private static void skipsAndVisits() {
        Edge.of(12, "To be LAID: not DIRTY, and by the BOUNDS it had: a SKIP, nothing more; else a VISIT: it and its"
                + " CHILDREN as told above, it isn't DIRTY then, nor BASED.");
        LaidOutBoxes x = Check.laidTree("row 0 0(column 0 0(block 1 1,block 1 1),block 2 2)");
        x.tells(0, 1, 3);
        due("who is clean is a SKIP, its CHILDREN nothing", x.lays() * 10 + x.told(8), 12);
        due("its place is set all the same", x.at(4, 0), 4);
        x.screen(100, 99);
        due("other BOUNDS are a VISIT", x.lays() * 10 + x.told(8), 32);
        x.screen(99, 99);
        due("of THE TOP alone", x.lays() * 10 + x.told(8), 12);
        x.tells(1, 5, 2);
        due("a least WIDE", x.lays() * 10 + x.told(8), 23);
        LaidOutBoxes y = Check.laidTree("pad 0 0(layers 0(ratio 1 1(centre(block 1 1))))");
        y.tells(4, 0, 2);
        y.tells(0, 0, 0);
        dueMarked("below a clean one", y, 1 + 8 + 16, 1 + 8);
        due("THE TOP, a SKIP, then those two", y.lays() * 10 + y.told(8), 31);
        dueMarked("all clean", y, 0, 0);
        LaidOutBoxes z = Check.laidTree("row 4 0(text 1 1,block 1 1)");
        z.tells(0, 0, 0);
        z.tells(1, 0, 2);
        z.lays();
        due("a VISIT ends BASED, a SKIP doesn't", z.of(1, 13) * 10 + z.of(2, 13), 1);
    }

    private static void based() {
        Edge.of(7, "BASED: a ROW with a 4 asked its BASE as it was LAID (and who was asked for that, in turn).");
        LaidOutBoxes x = Check.tree("row 4 0(layers 0(fit,pad 1 1(text 0 0),text 1 1,text 1 1),row 4 0(text 1 1),block 1 1)");
        for (int box = 0; box < 10; box++) {
            due("not ahead of that, " + box, x.of(box, 13), 0);
        }
        x.lays();
        int[] based = {0, 1, 1, 1, 1, 1, 0, 1, 1, 1};
        for (int box = 0; box < 10; box++) {
            due("BASED " + box, x.of(box, 13), based[box]);
        }
        LaidOutBoxes y = Check.laidTree("row 3 0(text 1 1)");
        due("a ROW with a 3 asks nobody", y.of(1, 13), 0);
        due("a COLUMN with a 4 asks nobody", Check.laidTree("column 4 0(text 1 1)").of(1, 13), 0);
        y.at(0, 8);
        due("nor does a call", y.of(1, 13), 0);
        y.tells(0, 0, 4);
        due("not till it is LAID", y.of(1, 13), 0);
        y.lays();
        due("then it is", y.of(1, 13), 1);
        due("its CHILD had other BOUNDS before: no SKIP", y.told(8), 0);
        y.tells(0, 1, 4);
        y.lays();
        due("a SKIP, BASED still", y.told(8) * 10 + y.of(1, 13), 11);
    }

    private static void lays() {
        Edge.of(12, "All is LAID OUT: VISITS.");
        LaidOutBoxes x = new LaidOutBoxes();
        due("nothing there", x.lays(), 0);
        x.comes(4, -1, 0, 0, 0, 0);
        due("one", x.lays(), 1);
        due("none", x.lays(), 0);
        x.drops(0);
        due("nothing there any more", x.lays(), 0);
        due("all 24", ratios().lays(), 24);
    }

    private static void at() {
        Edge.of(13, "Of a BOX, as LAID last (never LAID: 0, BASE NO_SUCH): 0 x, 1 y, 2 and 3 these in THE TOP, 4"
                + " WIDE, 5 HIGH, 6 OVER, 7 ROUNDS, 8 BASE (NO_SUCH).");
        LaidOutBoxes x = Check.tree("pad 3 4(row 0 0(text 1 2*1,pad 1 2(block 1 1)))");
        for (int box = 0; box < 5; box++) {
            Check.dueAt(x, box, 0, 0, 0, 0, 0, 0, 0, 0, 0, NO_SUCH);
        }
        x.screen(8, 50);
        x.lays();
        Check.dueAt(x, 0, 0, 0, 0, 0, 0, 8, 13, 0, 0, 5);
        Check.dueAt(x, 1, 0, 3, 4, 3, 4, 2, 5, 1, 1, 1);
        Check.dueAt(x, 2, 0, 0, 0, 3, 4, 0, 2, 0, 0, 1);
        Check.dueAt(x, 3, 0, 0, 0, 3, 4, 3, 5, 0, 0, NO_SUCH);
        Check.dueAt(x, 4, 0, 1, 2, 4, 6, 1, 1, 0, 0, NO_SUCH);
        x.drops(4);
        x.comes(1, 3, 5, 5, 0, 0);
        Check.dueAt(x, 5, 0, 0, 0, 0, 0, 0, 0, 0, 0, NO_SUCH);
        Edge.of(13, "8 BASE (NO_SUCH). NONE.");
        for (int box : new int[] {-1, 4, 6, 24, 32, LOWEST, HIGHEST}) {
            due("box " + box, x.at(box, 4), NONE);
        }
        for (int what : new int[] {-1, 9, LOWEST, HIGHEST}) {
            due("what " + what, x.at(0, what), NONE);
            due("what " + what + " of one never LAID", x.at(5, what), NONE);
        }
        Edge.of(13, "What at() and bounds() tell is as a BOX was LAID last, whatever was told since.");
        x.tells(0, 0, 20);
        x.tells(1, 0, 4);
        x.tells(1, 1, 20);
        x.tells(2, 4, 0);
        x.tells(2, 0, 0);
        x.moves(3, 0);
        x.screen(200, 200);
        Check.dueAt(x, 0, 0, 0, 0, 0, 0, 8, 13, 0, 0, 5);
        Check.dueAt(x, 1, 0, 3, 4, 3, 4, 2, 5, 1, 1);
        Check.dueAt(x, 2, 0, 0, 0, 3, 4, 0, 2, 0, 0, 1);
        Check.dueBounds(x, 0, 0, 8, 0, 50);
        Check.dueBounds(x, 1, 0, 2, 0, 42);
        Check.dueBounds(x, 2, 0, 0, 0, 42);
    }

    private static void bounds() {
        Edge.of(14, "BOUNDS as it was LAID last (what 0 .. 3 as told above).");
        LaidOutBoxes x = Check.tree("limit 1 2 3 4(block 9 9)");
        Edge.of(14, "NONE: box, what; NO_SUCH: never.");
        for (int what = 0; what <= 3; what++) {
            due("never", x.bounds(1, what), NO_SUCH);
        }
        for (int what : new int[] {-1, 4, LOWEST, HIGHEST}) {
            due("what " + what + " ahead of NO_SUCH", x.bounds(1, what), NONE);
        }
        x.lays();
        Check.dueBounds(x, 0, 0, 100, 0, 100);
        Check.dueBounds(x, 1, 1, 2, 3, 4);
        for (int what : new int[] {-1, 4, LOWEST, HIGHEST}) {
            due("what " + what, x.bounds(1, what), NONE);
        }
        for (int box : new int[] {-1, 2, 24, 32, LOWEST, HIGHEST}) {
            due("box " + box, x.bounds(box, 0), NONE);
        }
    }

    private static void asks() {
        Edge.of(15, "GREATEST (what 0), NARROW (1). NONE.");
        LaidOutBoxes x = Check.tree("text 2 31");
        due("GREATEST", x.asks(0, 0), 10);
        due("NARROW", x.asks(0, 1), 8);
        for (int what : new int[] {-1, 2, 3, LOWEST, HIGHEST}) {
            due("what " + what, x.asks(0, what), NONE);
        }
        for (int box : new int[] {-1, 1, 24, 32, LOWEST, HIGHEST}) {
            due("box " + box, x.asks(box, 0), NONE);
        }
        due("two MEMOS were made", x.told(13), 2);
        due("0 is a MEMO, too", zeroAsked(), 11);
    }

    private static int zeroAsked() {
        LaidOutBoxes x = Check.tree("fit");
        x.asks(0, 0);
        x.asks(0, 0);
        return x.told(13) * 10 + x.of(0, 12);
    }

    private static void points() {
        Edge.of(16, "Who is AT a point; NO_SUCH.");
        due("nothing there", new LaidOutBoxes().hit(0, 0), NO_SUCH);
        due("never LAID", Check.tree("block 9 9").hit(0, 0), NO_SUCH);
        due("of 0 by 0", Check.laidTree("block 0 0").hit(0, 0), NO_SUCH);
        due("of 0 WIDE", Check.laidTree("block 0 9").hit(0, 0), NO_SUCH);
        due("of 0 HIGH", Check.laidTree("block 9 0").hit(0, 0), NO_SUCH);
        Edge.of(16, "A point is in a BOX, if it is at x or further and ahead of x plus WIDE, likewise y, HIGH;");
        LaidOutBoxes x = Check.laidTree("pad 2 3(block 4 5)");
        int[][] points = {{0, 0, 0}, {-1, 0, NO_SUCH}, {0, -1, NO_SUCH}, {7, 10, 0}, {8, 10, NO_SUCH}, {7, 11, NO_SUCH},
            {2, 3, 1}, {1, 3, 0}, {2, 2, 0}, {5, 7, 1}, {6, 7, 0}, {5, 8, 0}, {LOWEST, 0, NO_SUCH}, {HIGHEST, 0, NO_SUCH},
            {0, LOWEST, NO_SUCH}, {0, HIGHEST, NO_SUCH}, {LOWEST, LOWEST, NO_SUCH}, {HIGHEST, HIGHEST, NO_SUCH}};
        for (int[] p : points) {
            due("hit(" + p[0] + ", " + p[1] + ")", x.hit(p[0], p[1]), p[2]);
        }
        Edge.of(16, "AT a point: of THE TOP, if the point is in it, the last of its CHILDREN that is AT it, in turn,"
                + " else itself.");
        LaidOutBoxes y = Check.laidTree("layers 0(block 9 9,block 5 5,layers 0(block 3 3))");
        int[][] layered = {{2, 4}, {3, 2}, {5, 1}, {8, 1}, {9, NO_SUCH}};
        for (int[] l : layered) {
            due("hit(" + l[0] + ")", y.hit(l[0], l[0]), l[1]);
        }
        y.moves(1, 2);
        due("the last one now, laid or not", y.hit(2, 2), 1);
        y.drops(1);
        due("else itself", y.hit(8, 8), 0);
        Edge.of(16, "who is AT it is sought within those it is in, the last CHILD first.");
        LaidOutBoxes z = Check.onScreen(10, 10, "row 0 0(pad 0 0(block 4 4),column 0 0(block 9 4,block 9 20))");
        due("in who sticks out, within THE TOP", z.hit(9, 9), 5);
        due("not outside", z.hit(10, 9), NO_SUCH);
        due("not below", z.hit(9, 10), NO_SUCH);
        LaidOutBoxes w = Check.tree("row 0 0(row 0 0(block 9 9),block 9 9)");
        w.tells(1, 6, 4);
        w.lays();
        due("its CHILD sticks out of 1: there it is 3", w.hit(5, 5), 3);
        due("within it", w.hit(3, 5), 2);
    }

    private static void told() {
        Edge.of(17, "What 0 SCREEN's WIDE, 1 HIGH, 2 THE TOP (NO_SUCH), 3 BOXES there (bits), 4 DIRTY ones, 5 those"
                + " on THE LIST, 6 those OVER (as LAID last), 7 VISITS, 8 SKIPS of the latest lays() (0 at first), 9"
                + " how many BOXES came, 10 letters, 11 rows of the PLAN, 12 WORK, 13 how many MEMOS were made in all"
                + " (not in thought). NONE.");
        LaidOutBoxes x = new LaidOutBoxes();
        int[] atFirst = {100, 100, NO_SUCH, 0, 0, 0, 0, 0, 0, 0, 0, 0, 0, 0};
        for (int what = 0; what <= 13; what++) {
            due("told(" + what + ") at first", x.told(what), atFirst[what]);
        }
        for (int what : new int[] {-1, 14, 15, LOWEST, HIGHEST}) {
            due("told(" + what + ")", x.told(what), NONE);
        }
        LaidOutBoxes y = new LaidOutBoxes();
        y.comes(8, -1, 0, 20, 0, 0);
        for (int i = 1; i < 24; i++) {
            y.comes(8, (i - 1) / 8, 0, 20, 0, 0);
        }
        y.screen(0, 0);
        due("24 bits DIRTY", y.told(4), 0xFFFFFF);
        y.drops(22);
        y.lays();
        due("all but one", y.told(3), 0xBFFFFF);
        due("0 has 140 in 0, 1 and 2 are as WIDE as they like", y.told(6), 1);
        due("23 VISITS", y.told(7), 23);
        due("they came all the same", y.told(9), 24);
        y.asks(0, 0);
        due("23 MEMOS", y.told(13), 23);
        y.agrees();
        y.tall(5);
        due("not in thought", y.told(13), 23);
        due("WORK", y.told(12), 2 * 23 + 23 + 23 + 23);
    }

    private static void toldOfTheLatest() {
        Edge.of(17, "told(7), told(8) tell of the latest lays(), whatever came since;");
        LaidOutBoxes x = Check.laidTree("row 0 0(block 1 1,block 1 1)");
        x.tells(1, 0, 2);
        x.lays();
        due("two VISITS, a SKIP", x.told(7) * 10 + x.told(8), 21);
        x.tells(2, 0, 2);
        x.drops(1);
        x.screen(5, 5);
        x.agrees();
        x.narrowest();
        x.reached(2, 0);
        x.drops(0);
        due("whatever came since", x.told(7) * 10 + x.told(8), 21);
        x.lays();
        due("a lays() that finds nothing", x.told(7) * 10 + x.told(8), 0);
    }
}
