/** Edges of promises 31 to 37: TAPES, THE IMAGE, and what is refused at all. */
final class TapeEdges {
    private static final int NONE = -1, BAD = -2, STATE = -3, FULL = -4, NO_SUCH = -5;
    private static final int NOTHING = -11, CAST = -12, PLACE = -13, SIZE = -14;
    private static final int BYTES = 0, SHORTS = 1, INTS = 2, LONGS = 3;
    private static final long NO = LaidOutBoxes.NO;
    private static final int LOWEST = Integer.MIN_VALUE, HIGHEST = Integer.MAX_VALUE;
    private static final int[] NO_TAPES = {-1, 4, 5, LOWEST, HIGHEST};

    private TapeEdges() {
    }

    static void all() {
        tapesAtFirst();
        judged();
        theRowEnds();
        tape();
        item();
        peek();
        shift();
        shiftRefused();
        image();
        imageOfAll();
        undo();
        whatUndoLeaves();
        answers();
    }

    private static void due(String what, long got, long want) {
        Edge.due(what, got, want);
    }

    private static void fill(LaidOutBoxes x, int tape, int sort, long... items) {
        x.tape(tape, sort, items.length);
        for (int i = 0; i < items.length; i++) {
            x.item(tape, i, items[i]);
        }
    }

    private static void dueItems(String what, LaidOutBoxes x, int tape, long... items) {
        for (int i = 0; i < items.length; i++) {
            due(what + ", item " + i, x.peek(tape, i), items[i]);
        }
        due(what + ", none behind", x.peek(tape, items.length), NO);
    }

    private static void tapesAtFirst() {
        Edge.of(32, "TAPES 0 .. 3 hold nothing (at first), or a row of 0 bytes, 1 shorts, 2 ints, 3 longs.");
        LaidOutBoxes x = new LaidOutBoxes();
        for (int tape = 0; tape <= 3; tape++) {
            due("no item", x.item(tape, 0, 1), NOTHING);
            due("nothing to see", x.peek(tape, 0), NO);
            due("nothing to shift", x.shift(tape, 0, tape, 0, 0), NOTHING);
            due("nothing to judge by", x.judge(tape, 0), 100);
        }
        long[] most = {127, 32767, HIGHEST, Long.MAX_VALUE};
        for (int sort = BYTES; sort <= LONGS; sort++) {
            x.tape(sort, sort, 1);
            x.item(sort, 0, most[sort]);
            due("the most, sort " + sort, x.peek(sort, 0), most[sort]);
            x.item(sort, 0, most[sort] + 1);
            due("one more is the least, sort " + sort, x.peek(sort, 0), -most[sort] - 1);
        }
    }

    private static void judged() {
        Edge.of(31, "JUDGED: WIDES, as LAID last, of BOXES there, by numbers, told by a row of ints from a place on:"
                + " the number of the first BOX that is otherwise; -5: none;");
        LaidOutBoxes x = Check.laidTree("row 0 0(block 10 5,block 3 3,block 0 0)");
        fill(x, 0, INTS, 13, 10, 3, 0);
        due("none", x.judge(0, 0), NO_SUCH);
        for (int box = 0; box < 4; box++) {
            long was = x.peek(0, box);
            x.item(0, box, was + 1);
            due("the first that is otherwise", x.judge(0, 0), box);
            x.item(0, box, was);
        }
        x.item(0, 1, 0);
        x.item(0, 3, 9);
        due("the first of two", x.judge(0, 0), 1);
        fill(x, 0, INTS, 7, 7, 13, 10, 3, 0, 7);
        due("from a place on, and more behind", x.judge(0, 2), NO_SUCH);
        x.tells(1, 0, 50);
        due("as LAID last", x.judge(0, 2), NO_SUCH);
        x.comes(0, 0, 7, 7, 0, 0);
        due("one never LAID has 0", x.judge(0, 2), 4);
        x.item(0, 6, 0);
        due("0 told", x.judge(0, 2), NO_SUCH);
        x.drops(1);
        fill(x, 1, INTS, 13, 3, 0, 0);
        due("those there, by numbers", x.judge(1, 0), NO_SUCH);
        x.moves(2, 2);
        due("whatever their order is", x.judge(1, 0), NO_SUCH);
        x.drops(0);
        due("of no BOXES none is otherwise", x.judge(1, 0), NO_SUCH);
        due("not at the row's end, either", x.judge(1, 4), NO_SUCH);
    }

    private static void theRowEnds() {
        Edge.of(31, "100 and how many were looked at, if the row ends ahead of that (or the place is below 0, or the"
                + " TAPE holds nothing).");
        LaidOutBoxes x = Check.laidTree("row 0 0(block 10 5,block 3 3,block 0 0)");
        due("the TAPE holds nothing", x.judge(3, 0), 100);
        due("the TAPE holds nothing, and the place is below 0", x.judge(3, -1), 100);
        fill(x, 0, INTS, 13, 10, 3);
        due("three looked at", x.judge(0, 0), 103);
        fill(x, 1, INTS, 13, 9, 3);
        due("otherwise ahead of that", x.judge(1, 0), 1);
        fill(x, 1, INTS, 5, 13);
        due("one looked at", x.judge(1, 1), 101);
        due("at the end", x.judge(1, 2), 100);
        due("beyond", x.judge(1, 3), 100);
        due("far beyond", x.judge(1, HIGHEST), 100);
        due("below 0", x.judge(1, -1), 100);
        due("far below 0", x.judge(1, LOWEST), 100);
        fill(x, 2, INTS);
        due("an empty row", x.judge(2, 0), 100);
        Edge.of(31, "JUDGED from place i of a TAPE on. NONE: tape; CAST: it is no row of ints.");
        for (int tape : NO_TAPES) {
            due("tape " + tape, x.judge(tape, 0), NONE);
        }
        for (int sort : new int[] {BYTES, SHORTS, LONGS}) {
            fill(x, 2, sort, 13, 10, 3, 0);
            due("sort " + sort, x.judge(2, 0), CAST);
            due("CAST ahead of the place", x.judge(2, -1), CAST);
            due("CAST ahead of the end", x.judge(2, 60), CAST);
        }
    }

    private static void tape() {
        Edge.of(32, "A TAPE becomes a row of n (0 .. 60) of a sort, all 0, or holds nothing (sort -1: n does not"
                + " matter): 1.");
        LaidOutBoxes x = new LaidOutBoxes();
        for (int sort = BYTES; sort <= LONGS; sort++) {
            due("60", x.tape(0, sort, 60), 1);
            x.item(0, 59, 1);
            due("no 61st", x.item(0, 60, 1), PLACE);
            due("60 again", x.tape(0, sort, 60), 1);
            due("all 0", x.peek(0, 59), 0);
            due("0", x.tape(0, sort, 0), 1);
            due("no first", x.item(0, 0, 1), PLACE);
            for (int n : new int[] {0, -1, 61, LOWEST, HIGHEST}) {
                x.tape(0, sort, 3);
                due("nothing, n " + n, x.tape(0, -1, n), 1);
                due("nothing is there", x.item(0, 0, 1), NOTHING);
            }
        }
        Edge.of(32, "NONE: tape; BAD: sort, n above 60; SIZE.");
        fill(x, 0, INTS, 7);
        for (int tape : NO_TAPES) {
            due("tape " + tape, x.tape(tape, INTS, 1), NONE);
            due("tape " + tape + " ahead of BAD", x.tape(tape, 4, 1), NONE);
            due("tape " + tape + " ahead of SIZE", x.tape(tape, INTS, -1), NONE);
            due("tape " + tape + " ahead of nothing", x.tape(tape, -1, 0), NONE);
        }
        for (int sort : new int[] {-2, 4, LOWEST, HIGHEST}) {
            due("sort " + sort, x.tape(0, sort, 1), BAD);
            due("sort " + sort + " ahead of SIZE", x.tape(0, sort, -1), BAD);
        }
        due("n 61", x.tape(0, INTS, 61), BAD);
        due("n far above", x.tape(0, INTS, HIGHEST), BAD);
        due("n -1", x.tape(0, INTS, -1), SIZE);
        due("n far below", x.tape(0, INTS, LOWEST), SIZE);
        dueItems("it stays", x, 0, 7);
    }

    private static void item() {
        Edge.of(33, "Item i of a TAPE becomes v (its lowest bits, as many as an item has): 1.");
        LaidOutBoxes x = new LaidOutBoxes();
        long[] told = {Long.MIN_VALUE, Long.MAX_VALUE, -1, 255, 256, 65535, 65536, 4294967295L, 4294967296L, 128, 32768};
        for (int sort = BYTES; sort <= LONGS; sort++) {
            x.tape(0, sort, 2);
            for (long v : told) {
                due("told", x.item(0, 1, v), 1);
                long kept = sort == BYTES ? (byte) v : sort == SHORTS ? (short) v : sort == INTS ? (int) v : v;
                due(v + " in sort " + sort, x.peek(0, 1), kept);
                due("beside it", x.peek(0, 0), 0);
            }
        }
        Edge.of(33, "NONE; NOTHING; PLACE.");
        for (int tape : NO_TAPES) {
            due("tape " + tape, x.item(tape, 0, 1), NONE);
            due("tape " + tape + " ahead of PLACE", x.item(tape, -1, 1), NONE);
        }
        for (int i : new int[] {-1, 2, 60, LOWEST, HIGHEST}) {
            due("place " + i, x.item(0, i, 1), PLACE);
            due("NOTHING ahead of place " + i, x.item(1, i, 1), NOTHING);
        }
    }

    private static void peek() {
        Edge.of(34, "Item i of a TAPE. NO: no such TAPE, nothing there, no such place.");
        LaidOutBoxes x = new LaidOutBoxes();
        fill(x, 0, LONGS, 5, NO, 6);
        dueItems("each", x, 0, 5, NO, 6);
        for (int tape : NO_TAPES) {
            due("tape " + tape, x.peek(tape, 0), NO);
        }
        for (int i : new int[] {-1, 3, 59, 60, LOWEST, HIGHEST}) {
            due("place " + i, x.peek(0, i), NO);
        }
        due("nothing there", x.peek(1, 0), NO);
        x.tape(1, BYTES, 0);
        due("an empty row", x.peek(1, 0), NO);
        x.tape(0, LONGS, 2);
        due("a shorter row", x.peek(0, 2), NO);
    }

    private static void shift() {
        Edge.of(35, "n items of a TAPE from i on come to another one (or the same) from j on, as they all were"
                + " before: n.");
        for (int sort = BYTES; sort <= LONGS; sort++) {
            LaidOutBoxes x = new LaidOutBoxes();
            fill(x, 0, sort, 1, 2, 3, 4, 5);
            fill(x, 1, sort, 9, 9, 9);
            due("to another, to its end", x.shift(0, 3, 1, 1, 2), 2);
            dueItems("to another", x, 1, 9, 4, 5);
            dueItems("where they were", x, 0, 1, 2, 3, 4, 5);
            due("further on, over itself", x.shift(0, 0, 0, 1, 4), 4);
            dueItems("as they were before", x, 0, 1, 1, 2, 3, 4);
            due("back, over itself", x.shift(0, 1, 0, 0, 4), 4);
            dueItems("as they were before", x, 0, 1, 2, 3, 4, 4);
            due("all to where they are", x.shift(0, 0, 0, 0, 5), 5);
            dueItems("alike", x, 0, 1, 2, 3, 4, 4);
            due("none", x.shift(0, 0, 1, 0, 0), 0);
            due("none at both ends", x.shift(0, 5, 1, 3, 0), 0);
            dueItems("alike", x, 1, 9, 4, 5);
            x.tape(2, sort, 0);
            due("none of an empty row", x.shift(2, 0, 2, 0, 0), 0);
        }
        LaidOutBoxes most = new LaidOutBoxes();
        most.tape(0, LONGS, 60);
        most.tape(1, LONGS, 60);
        most.item(0, 59, 7);
        due("60 items", most.shift(0, 0, 1, 0, 60), 60);
        due("the last of them", most.peek(1, 59), 7);
    }

    private static void shiftRefused() {
        Edge.of(35, "NONE: tapes; NOTHING; CAST: of unlike sorts; PLACE: n, i or j is below 0, or beyond either's"
                + " end.");
        LaidOutBoxes x = new LaidOutBoxes();
        fill(x, 0, INTS, 1, 2, 3, 4, 5);
        fill(x, 1, INTS, 6, 7, 8);
        fill(x, 2, LONGS, 9);
        for (int tape : NO_TAPES) {
            due("tape " + tape, x.shift(tape, 0, 0, 0, 1), NONE);
            due("other " + tape, x.shift(0, 0, tape, 0, 1), NONE);
            due("ahead of NOTHING", x.shift(3, 0, tape, 0, 1), NONE);
            due("ahead of PLACE", x.shift(tape, -1, 2, -1, -1), NONE);
        }
        due("nothing in the first", x.shift(3, 0, 0, 0, 1), NOTHING);
        due("nothing in the other", x.shift(0, 0, 3, 0, 1), NOTHING);
        due("nothing in the same", x.shift(3, 0, 3, 0, 0), NOTHING);
        due("ahead of PLACE", x.shift(3, -1, 0, -1, -1), NOTHING);
        due("unlike sorts", x.shift(0, 0, 2, 0, 1), CAST);
        due("unlike sorts, the other way", x.shift(2, 0, 0, 0, 1), CAST);
        due("ahead of none to shift", x.shift(0, 0, 2, 0, 0), CAST);
        due("ahead of PLACE", x.shift(0, -1, 2, 9, -1), CAST);
        int[][] places = {{0, 0, -1}, {-1, 0, 1}, {0, -1, 1}, {5, 0, 1}, {4, 0, 2}, {0, 3, 1}, {0, 2, 2}, {0, 0, 4}, {2, 0, 4},
            {6, 0, 0}, {0, 4, 0}, {-1, 0, 0}, {0, -1, 0}, {HIGHEST, 0, 1}, {0, HIGHEST, 1}, {0, 0, HIGHEST}, {1, 1, HIGHEST},
            {HIGHEST, HIGHEST, HIGHEST}, {LOWEST, 0, 1}, {0, LOWEST, 1}, {0, 0, LOWEST}, {HIGHEST, 0, HIGHEST}};
        for (int[] p : places) {
            due("i " + p[0] + ", j " + p[1] + ", n " + p[2], x.shift(0, p[0], 1, p[1], p[2]), PLACE);
        }
        dueItems("as they were", x, 0, 1, 2, 3, 4, 5);
        dueItems("as they were", x, 1, 6, 7, 8);
    }

    private static void image() {
        Edge.of(36, "THE IMAGE is taken of BOXES with all that is theirs, THE SCREEN, THE LIST, how many came, the"
                + " PLAN, SEED: how many BOXES there are.");
        LaidOutBoxes x = new LaidOutBoxes();
        due("of nothing", x.image(), 0);
        for (int i = 0; i < 24; i++) {
            x.comes(2, i - 1, 1, 1, 0, 0);
        }
        due("of all 24", x.image(), 24);
        x.drops(5);
        due("of those there", x.image(), 5);
        x.drops(0);
        due("the latest counts", x.undo(), 5);
        due("how many came", x.told(9), 24);
        due("24 came, so none comes", x.comes(0, 4, 1, 1, 0, 0), FULL);
        due("changes nothing", imageChanges(), 0);
    }

    private static int imageChanges() {
        LaidOutBoxes x = Check.laidTree("row 4 0(text 1 1,fit(block 1 1))");
        x.tells(1, 0, 2);
        x.asks(0, 0);
        String before = Check.all(x);
        x.image();
        return Check.all(x).equals(before) ? 0 : 1;
    }

    private static void imageOfAll() {
        Edge.of(37, "All is as THE IMAGE: how many BOXES there are.");
        LaidOutBoxes x = Check.laidTree("row 4 1(text 2 2*1,fit(block 3 3),limit 1 9 1 9(ratio 1 1(text 1 1)))");
        x.tells(1, 5, 4);
        x.tells(1, 6, 40);
        x.tells(6, 0, 2);
        x.asks(3, 1);
        x.plan(1, 3);
        x.plan(2, 4);
        x.seed(-7);
        x.screen(77, 1000);
        String kept = Check.all(x);
        String printed = Check.print(x, 0);
        due("how many", x.image(), 7);
        x.tells(0, 0, 0);
        x.tells(0, 1, 9);
        x.tells(1, 4, 0);
        x.tells(1, 5, 0);
        x.tells(1, 6, 99);
        x.tells(1, 0, 0);
        x.moves(2, 0);
        x.drops(4);
        Check.read(x, 0, "row 4 0(text 3 3)");
        x.plan(-1, 0);
        x.plan(2, 9);
        x.seed(5);
        x.screen(0, 0);
        due("how many then", x.undo(), 7);
        Check.sameText("all", Check.all(x), kept);
        Check.sameText("printed", Check.print(x, 0), printed);
        due("once more", x.undo(), 7);
        Check.sameText("all", Check.all(x), kept);
        x.drops(0);
        due("from nothing", x.undo(), 7);
        Check.sameText("all", Check.all(x), kept);
        due("the numbers go on from there", x.comes(0, 0, 1, 1, 0, 0), 7);
        keptMemos();
        givenAgain();
    }

    private static void keptMemos() {
        LaidOutBoxes x = Check.tree("text 3 2");
        x.asks(0, 0);
        x.asks(0, 1);
        x.image();
        x.tells(0, 0, 1);
        x.tells(0, 1, 0);
        due("other answers", x.asks(0, 0) * 100 + x.asks(0, 1), 101);
        x.undo();
        due("as they were", x.asks(0, 0) * 100 + x.asks(0, 1), 1908);
        due("by MEMOS", x.told(13), 4);
    }

    private static void givenAgain() {
        LaidOutBoxes x = Check.laidTree("row 0 0");
        x.image();
        Check.read(x, 0, "row 4 9*3(block 9 9,block 9 9*1)");
        x.tells(1, 6, 9);
        x.tells(1, 4, 0);
        x.lays();
        Check.dueAt(x, 1, 4, 9, 9, 9, 1, 9);
        x.undo();
        due("a number given again", x.comes(8, 0, 4, 0, 0, 0), 1);
        Check.dueAt(x, 1, 0, 0, 0, 0, 0, 0, 0, 0, 0, NO_SUCH);
        due("never LAID", x.bounds(1, 0), NO_SUCH);
        due("as at first", x.of(1, 2) * 1000000 + x.of(1, 7) * 10000 + x.of(1, 8) * 100 + x.of(1, 9), 99);
    }

    private static void undo() {
        Edge.of(37, "STATE: there is none.");
        LaidOutBoxes x = new LaidOutBoxes();
        due("none", x.undo(), STATE);
        x.comes(0, -1, 1, 1, 0, 0);
        due("none still", x.undo(), STATE);
        due("nothing changed", x.told(9), 1);
        due("of one BOX", x.image(), 1);
        x.drops(0);
        due("of nothing, as the latest", x.image(), 0);
        due("one, though of nothing", x.undo(), 0);
        due("one came", x.told(9), 1);
    }

    private static void whatUndoLeaves() {
        Edge.of(37, "undo() leaves these, WORK, told(13), the letters and TAPES as they are.");
        LaidOutBoxes x = Check.tree("row 0 0(block 3 3,block 4 4)");
        fill(x, 0, INTS, 1, 2);
        x.letter('f');
        x.image();
        x.lays();
        x.tells(1, 0, 5);
        x.lays();
        x.asks(0, 0);
        x.agrees();
        x.letter('i');
        x.letter('t');
        fill(x, 0, BYTES, 3);
        fill(x, 3, LONGS, 4);
        x.undo();
        due("VISITS and SKIPS of the latest lays()", x.told(7) * 10 + x.told(8), 21);
        due("WORK", x.told(12), 9);
        due("MEMOS made", x.told(13), 3);
        due("no MEMO is there", x.of(0, 12), 0);
        due("letters", x.told(10), 3);
        dueItems("a TAPE told since", x, 0, 3);
        dueItems("another", x, 3, 4);
        due("those letters", x.reads(0) * 10 + x.of(3, 0), 15);
    }

    private static void answers() {
        Edge.of(1, "Answers: NONE (-1) no such number; BAD (-2) a number is not as told; STATE (-3) as told; FULL"
                + " (-4); NO_SUCH (-5);");
        due("NONE", LaidOutBoxes.NONE, NONE);
        due("BAD", LaidOutBoxes.BAD, BAD);
        due("STATE", LaidOutBoxes.STATE, STATE);
        due("FULL", LaidOutBoxes.FULL, FULL);
        due("NO_SUCH", LaidOutBoxes.NO_SUCH, NO_SUCH);
        Edge.of(1, "The constants: `NO = Long.MIN_VALUE`: There is no such number.");
        due("NO", LaidOutBoxes.NO, Long.MIN_VALUE);
        Edge.of(1, "The host's refusals: NOTHING (-11): nothing is there; CAST (-12): another sort or KIND; PLACE"
                + " (-13): no such place; SIZE (-14): a size below 0.");
        LaidOutBoxes x = new LaidOutBoxes();
        due("NOTHING", x.item(0, 0, 1), -11);
        due("NOTHING", x.taken(0, 0), -11);
        due("SIZE", x.tape(0, BYTES, -1), -14);
        x.tape(0, BYTES, 1);
        due("PLACE", x.item(0, 1, 1), -13);
        due("CAST", x.judge(0, 0), -12);
        x.comes(0, -1, 1, 1, 0, 0);
        due("CAST", x.taken(0, 1), -12);
        // each call's refusals, in their order, and that they change nothing: RefusalsTest
        Edge.of(1, "the first that a call's words name (NO_SUCH last). What is answered so changes nothing.");
        LaidOutBoxes y = Check.tree("block 1 1");
        String before = Check.all(y);
        due("NONE, not BAD, STATE or FULL", y.comes(10, 1, -1, -1, -1, -1), NONE);
        due("BAD, not STATE", y.comes(0, 0, -1, -1, 0, 0), BAD);
        due("NONE, not NO_SUCH", y.bounds(0, 4), NONE);
        Check.sameText("nothing changed", Check.all(y), before);
    }
}
