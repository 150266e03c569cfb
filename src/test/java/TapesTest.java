/** Promises 31 to 37: TAPES, and THE IMAGE. */
public final class TapesTest {
    private static final int NONE = -1, BAD = -2, STATE = -3, NO_SUCH = -5;
    private static final int NOTHING = -11, CAST = -12, PLACE = -13, SIZE = -14;
    private static final long NO = LaidOutBoxes.NO;

    public static void main(String[] args) {
        judge();
        tape();
        itemAndPeek();
        shift();
        imageAndUndo();
        whatUndoLeaves();
        Check.end("promises 31 to 37");
    }

    private static void due(String what, long got, long want) {
        Check.due(what, got, want);
    }

    private static void fill(LaidOutBoxes x, int tape, int sort, long... items) {
        x.tape(tape, sort, items.length);
        for (int i = 0; i < items.length; i++) {
            x.item(tape, i, items[i]);
        }
    }

    private static void judge() {
        LaidOutBoxes x = Check.laidTree("row 0 0(block 10 5,block 3 3)");
        due("31: nothing there", x.judge(0, 0), 100);
        fill(x, 0, 2, 7, 13, 10, 3, 99);
        due("31: all as told", x.judge(0, 1), NO_SUCH);
        due("31: the first BOX", x.judge(0, 0), 0);
        due("31: below 0", x.judge(0, -1), 100);
        due("31: beyond the end", x.judge(0, 5), 100);
        due("31: far beyond", x.judge(0, Integer.MAX_VALUE), 100);
        x.item(0, 3, 4);
        due("31: the third BOX", x.judge(0, 1), 2);
        fill(x, 1, 2, 13, 10);
        due("31: the row ends", x.judge(1, 0), 102);
        due("31: otherwise ahead of the end", x.judge(1, 1), 0);
        fill(x, 2, 2);
        due("31: an empty row", x.judge(2, 0), 100);
        for (int sort = 0; sort < 4; sort++) {
            fill(x, 3, sort, 13, 10, 3);
            due("31: sort " + sort, x.judge(3, 0), sort == 2 ? NO_SUCH : CAST);
        }
        due("31: CAST ahead of the place", x.judge(3, -1), CAST);
        due("31: tape 4", x.judge(4, 0), NONE);
        due("31: tape -1", x.judge(-1, 0), NONE);
        x.drops(1);
        fill(x, 1, 2, 13, 3);
        due("31: those there, as LAID last", x.judge(1, 0), NO_SUCH);
        x.drops(0);
        due("31: no BOXES", x.judge(1, 0), NO_SUCH);
    }

    private static void tape() {
        LaidOutBoxes x = new LaidOutBoxes();
        due("32: tape 4", x.tape(4, 0, 1), NONE);
        due("32: NONE ahead of all", x.tape(-1, 9, -1), NONE);
        due("32: sort 4", x.tape(0, 4, 1), BAD);
        due("32: sort -2", x.tape(0, -2, 1), BAD);
        due("32: 61", x.tape(0, 0, 61), BAD);
        due("32: BAD ahead of SIZE", x.tape(0, 4, -1), BAD);
        due("32: -1", x.tape(0, 0, -1), SIZE);
        due("32: nothing yet", x.peek(0, 0), NO);
        due("32: 60", x.tape(0, 3, 60), 1);
        due("32: all 0", x.peek(0, 0) + x.peek(0, 59), 0);
        due("32: no more", x.peek(0, 60), NO);
        x.item(0, 5, 7);
        due("32: refused, it stays", x.tape(0, 3, -5), SIZE);
        due("32: refused, it stays", x.peek(0, 5), 7);
        due("32: anew", x.tape(0, 3, 10), 1);
        due("32: all 0", x.peek(0, 5), 0);
        due("32: nothing", x.tape(0, -1, -99), 1);
        due("32: nothing", x.peek(0, 0), NO);
        due("32: of no length", x.tape(0, 1, 0), 1);
        due("32: a row all the same", x.item(0, 0, 1), PLACE);
    }

    private static void itemAndPeek() {
        LaidOutBoxes x = new LaidOutBoxes();
        long v = 0x1122334455667788L;
        long[] cut = {(byte) 0x88, 0x7788, 0x55667788, v};
        long[] cutOfMinus = {0x78, (short) 0x8878, (int) 0xAA998878L, ~v + 1};
        for (int sort = 0; sort < 4; sort++) {
            x.tape(sort, sort, 3);
            due("33: item", x.item(sort, 1, v), 1);
            due("34: its lowest bits, sort " + sort, x.peek(sort, 1), cut[sort]);
            x.item(sort, 2, -v);
            due("34: of a number below 0, sort " + sort, x.peek(sort, 2), cutOfMinus[sort]);
            due("34: beside it", x.peek(sort, 0), 0);
        }
        due("33: place 3", x.item(0, 3, 1), PLACE);
        due("33: place -1", x.item(0, -1, 1), PLACE);
        due("33: tape 4", x.item(4, 0, 1), NONE);
        due("33: tape -1", x.item(-1, 0, 1), NONE);
        x.tape(0, -1, 0);
        due("33: NOTHING ahead of PLACE", x.item(0, -1, 1), NOTHING);
        due("34: nothing there", x.peek(0, 0), NO);
        due("34: place 3", x.peek(1, 3), NO);
        due("34: place -1", x.peek(1, -1), NO);
        due("34: tape 4", x.peek(4, 0), NO);
        due("34: tape -1", x.peek(-1, 0), NO);
    }

    private static void dueRow(String what, LaidOutBoxes x, int tape, long... items) {
        for (int i = 0; i < items.length; i++) {
            due(what + ", item " + i, x.peek(tape, i), items[i]);
        }
    }

    private static void shift() {
        LaidOutBoxes x = new LaidOutBoxes();
        fill(x, 0, 1, 1, 2, 3, 4, 5);
        fill(x, 1, 1, 9, 9, 9);
        fill(x, 2, 0, 9, 9, 9);
        due("35: to another", x.shift(0, 3, 1, 1, 2), 2);
        dueRow("35: to another", x, 1, 9, 4, 5);
        due("35: up", x.shift(0, 0, 0, 1, 4), 4);
        dueRow("35: up", x, 0, 1, 1, 2, 3, 4);
        due("35: down", x.shift(0, 1, 0, 0, 4), 4);
        dueRow("35: down", x, 0, 1, 2, 3, 4, 4);
        due("35: none at the end", x.shift(0, 5, 1, 3, 0), 0);
        due("35: all of it", x.shift(1, 0, 1, 0, 3), 3);
        int[][] refused = {{4, 0, 0, 0, 1, NONE}, {0, 0, -1, 0, 1, NONE}, {0, 0, 3, 0, 1, NOTHING},
            {3, -1, 0, 0, 1, NOTHING}, {0, 0, 2, 0, 1, CAST}, {0, -1, 2, 0, 1, CAST}, {0, 0, 1, 0, -1, PLACE},
            {0, -1, 1, 0, 1, PLACE}, {0, 0, 1, -1, 1, PLACE}, {0, 4, 1, 0, 2, PLACE}, {0, 0, 1, 2, 2, PLACE},
            {0, 6, 1, 0, 0, PLACE}, {0, 0, 1, 4, 0, PLACE}, {0, Integer.MAX_VALUE, 1, 0, 1, PLACE},
            {0, 0, 1, Integer.MAX_VALUE, Integer.MAX_VALUE, PLACE}, {0, 0, 1, 0, Integer.MIN_VALUE, PLACE}};
        String before = Check.all(x);
        for (int[] r : refused) {
            due("35: shift(" + r[0] + ", " + r[1] + ", " + r[2] + ", " + r[3] + ", " + r[4] + ")",
                    x.shift(r[0], r[1], r[2], r[3], r[4]), r[5]);
        }
        Check.sameText("35: nothing changed", Check.all(x), before);
    }

    private static void imageAndUndo() {
        LaidOutBoxes x = new LaidOutBoxes();
        due("37: there is none", x.undo(), STATE);
        due("36: of nothing", x.image(), 0);
        Check.read(x, -1, "row 0 0(ratio 1 1(centre(text 3 3)),block 3 3*2,row 4 0(text 1 1))");
        due("37: nothing again", x.undo(), 0);
        due("37: numbers are given again", Check.read(x, -1,
                "row 0 0(ratio 1 1(centre(text 3 3)),block 3 3*2,row 4 0(text 1 1))"), 7);
        x.screen(90, 1000);
        x.lays();
        x.asks(1, 0);
        x.tells(3, 0, 1);
        x.tells(4, 6, 50);
        x.plan(1, 2);
        x.seed(77);
        String kept = Check.all(x);
        due("36: how many", x.image(), 7);
        Check.sameText("36: changes nothing", Check.all(x), kept);
        x.drops(1);
        x.tells(4, 4, 9);
        x.tells(4, 5, 9);
        x.moves(4, 1);
        x.screen(1, 1);
        x.plan(-1, 0);
        x.seed(5);
        x.comes(0, 0, 1, 1, 0, 0);
        due("37: how many", x.undo(), 7);
        Check.sameText("37: all as it was", Check.all(x), kept);
        x.drops(0);
        due("37: again", x.undo(), 7);
        Check.sameText("37: all as it was", Check.all(x), kept);
        x.lays();
        x.undo();
        due("37: DIRTY and THE LIST", x.of(3, 10) * 10 + x.of(2, 11), 11);
        imageKeepsWhatLies();
        numbersAreGivenAgain();
    }

    private static void imageKeepsWhatLies() {
        LaidOutBoxes x = Check.laidTree("row 4 0(block 30 5*1,text 3 2)");
        x.asks(1, 0);
        x.asks(2, 1);
        x.plan(1, 3);
        x.plan(2, 4);
        int saved = x.saved();
        x.image();
        x.tells(0, 0, 0);
        x.tells(1, 0, 9);
        x.tells(1, 4, 0);
        x.tells(2, 1, 0);
        x.lays();
        x.asks(1, 0);
        x.asks(2, 1);
        x.plan(-1, 0);
        x.plan(2, 0);
        x.undo();
        due("37: BASE and ROUNDS", x.at(0, 8) * 10 + x.at(0, 7), 51);
        due("37: the MEMOS", x.asks(1, 0) * 10 + x.asks(2, 1), 308);
        due("37: none made by that", x.told(13), 4);
        due("37: the PLAN", x.saved(), saved);
        due("37: its rows", x.told(11), 2);
        LaidOutBoxes y = Check.laidTree("row 0 3(block 10 4,block 20 8)");
        y.plan(1, 1);
        y.plan(2, 2);
        y.image();
        y.plan(-1, 0);
        y.plan(1, 0);
        y.plan(2, 0);
        due("25: SHARES alike", y.saved(), 1);
        y.undo();
        due("37: SHARES of the PLAN", y.saved(), 2);
    }

    private static void numbersAreGivenAgain() {
        LaidOutBoxes x = Check.laidTree("row 4 0(block 30 5)");
        x.image();
        x.comes(8, 0, 1, 1, 0, 0);
        x.comes(0, 2, 7, 7, 0, 0);
        x.tells(2, 5, 20);
        x.tells(2, 6, 30);
        x.lays();
        x.asks(2, 0);
        x.undo();
        due("37: given again", x.comes(1, 0, 3, 3, 0, 0), 2);
        Check.dueAt(x, 2, 0, 0, 0, 0, 0, 0, 0, 0, 0, NO_SUCH);
        due("37: as a new one", x.bounds(2, 0) * 1000 + x.of(2, 8) * 100 + x.of(2, 9) + x.of(2, 2), -5000 + 99);
        due("37: as a new one", x.of(2, 10) * 100 + x.of(2, 12) * 10 + x.of(2, 13), 100);
    }

    private static void whatUndoLeaves() {
        LaidOutBoxes x = Check.tree("row 0 0(block 3 3,block 4 4)");
        x.image();
        x.lays();
        x.asks(0, 0);
        x.agrees();
        x.letter(65);
        x.letter(66);
        fill(x, 0, 2, 5);
        int work = x.told(12);
        x.undo();
        due("37: VISITS, SKIPS", x.told(7) * 10 + x.told(8), 30);
        due("37: WORK", x.told(12), work);
        due("37: MEMOS made", x.told(13) * 10 + x.of(0, 12), 30);
        due("37: letters", x.told(10), 2);
        due("37: TAPES", x.peek(0, 0), 5);
        due("37: never LAID again", x.bounds(0, 0), NO_SUCH);
        due("37: and laid again", x.lays(), 3);
    }
}
