/**
 * What is refused, with the first answer that the call's words name, changes nothing: behind each refused call the object
 * answers a long run of other calls as a twin does that was made alike and never heard of the refused call.
 */
public final class RefusalsTest {
    private static final int NONE = -1, BAD = -2, STATE = -3, FULL = -4, NO_SUCH = -5;
    private static final int NOTHING = -11, CAST = -12, PLACE = -13, SIZE = -14;
    private static final long NO = LaidOutBoxes.NO;
    private static final int FAR = Integer.MAX_VALUE, LOW = Integer.MIN_VALUE;

    private interface State {
        LaidOutBoxes made();
    }

    private interface Call {
        long on(LaidOutBoxes x);
    }

    private static State state;
    private static String kept = "";

    public static void main(String[] args) {
        anObjectWithAll();
        aNewObject();
        allIsFull();
        workIsDone();
        nobodyIsThere();
        Check.end("refusals");
    }

    private static void begin(String name, State one) {
        Check.about(name + ": ");
        state = one;
        kept = goneOn(one.made());
    }

    private static void refused(String name, long answer, Call call) {
        LaidOutBoxes x = state.made();
        Check.due(name, call.on(x), answer);
        Check.sameText("what comes behind " + name, goneOn(x), kept);
    }

    /** Many calls, so that all that an object holds, seen or unseen, shows in an answer. */
    private static String goneOn(LaidOutBoxes x) {
        StringBuilder answers = new StringBuilder(Check.all(x));
        int top = x.told(2);
        answers.append(' ').append(x.reads(top >= 0 ? top : -1)).append(' ').append(Check.print(x, Math.max(0, top)));
        for (int box = 0; box < 24; box += 3) {
            answers.append(' ').append(x.asks(box, 0)).append(' ').append(x.asks(box, 1));
        }
        answers.append(' ').append(x.told(13)).append(' ').append(x.saved()).append(' ').append(x.drawn(3));
        for (int tape = 0; tape < 4; tape++) {
            answers.append(' ').append(x.judge(tape, 0)).append(' ').append(x.shift(tape, 0, tape, 1, 1));
        }
        answers.append(' ').append(x.lays()).append(Check.all(x));
        answers.append(' ').append(x.undo()).append(' ').append(x.saved()).append(Check.all(x));
        answers.append(' ').append(x.lays()).append(Check.all(x));
        return answers.toString();
    }

    private static LaidOutBoxes withAll() {
        LaidOutBoxes x = Check.tree("row 4 1(text 3 2*2,fit(block 4 4),limit 5 5 5 5(layers 1(block 1 1)),block 9 9*1)");
        x.screen(60, 50);
        x.lays();
        x.asks(3, 0);
        x.plan(1, 3);
        x.image();
        x.plan(7, 2);
        x.seed(99);
        x.tells(6, 0, 2);
        x.tells(1, 0, 4);
        x.tells(7, 6, 30);
        x.drops(3);
        x.comes(1, 2, 2, 2, 0, 0);
        x.asks(8, 1);
        x.tape(0, 2, 3);
        x.item(0, 1, 7);
        x.tape(1, 0, 2);
        x.tape(2, 2, 1);
        for (char c : "fit(fit".toCharArray()) {
            x.letter(c);
        }
        return x;
    }

    private static void anObjectWithAll() {
        begin("an object with all", RefusalsTest::withAll);
        refused("comes: parent", NONE, x -> x.comes(0, 24, 1, 1, 0, 0));
        refused("comes: a parent that is gone, and a number", NONE, x -> x.comes(0, 3, 100, 1, 0, 0));
        refused("comes: parent and kind", NONE, x -> x.comes(10, -2, 1, 1, 0, 0));
        refused("comes: kind", BAD, x -> x.comes(10, 0, 1, 1, 0, 0));
        refused("comes: kind, and there is a TOP", BAD, x -> x.comes(-1, -1, 1, 1, 0, 0));
        refused("comes: a number, and who takes none", BAD, x -> x.comes(0, 7, 1, 100, 0, 0));
        refused("comes: there is a TOP", STATE, x -> x.comes(0, -1, 1, 1, 0, 0));
        refused("comes: who takes none", STATE, x -> x.comes(0, 7, 1, 1, 0, 0));
        refused("comes: who has one", STATE, x -> x.comes(0, 4, 1, 1, 0, 0));
        refused("tells: box", NONE, x -> x.tells(3, 0, 1));
        refused("tells: box and v", NONE, x -> x.tells(FAR, 0, 100));
        refused("tells: what", NONE, x -> x.tells(0, 7, 1));
        refused("tells: what and v", NONE, x -> x.tells(0, -1, LOW));
        refused("tells: what its KIND hasn't", NONE, x -> x.tells(0, 2, 1));
        refused("tells: a", BAD, x -> x.tells(0, 0, 5));
        refused("tells: b below a", BAD, x -> x.tells(4, 1, 4));
        refused("tells: c above d", BAD, x -> x.tells(4, 2, 6));
        refused("tells: SHARE", BAD, x -> x.tells(1, 4, 10));
        refused("tells: LEAST above MOST", BAD, x -> x.tells(7, 5, 31));
        refused("tells: MOST", BAD, x -> x.tells(7, 6, 100));
        refused("drops", NONE, x -> x.drops(3));
        refused("drops", NONE, x -> x.drops(-1));
        refused("moves: box", NONE, x -> x.moves(3, 0));
        refused("moves: THE TOP, and i", NONE, x -> x.moves(0, 9));
        refused("moves: i", BAD, x -> x.moves(1, 4));
        refused("moves: i", BAD, x -> x.moves(8, 1));
        refused("screen: wide", BAD, x -> x.screen(201, 50));
        refused("screen: high", BAD, x -> x.screen(60, 201));
        refused("of: box", NONE, x -> x.of(3, 0));
        refused("of: what", NONE, x -> x.of(0, 15));
        refused("child", NONE, x -> x.child(0, 4));
        refused("letter", BAD, x -> x.letter(127));
        refused("reads: parent", NONE, x -> x.reads(3));
        refused("reads: there is a TOP", STATE, x -> x.reads(-1));
        refused("reads: who takes none", STATE, x -> x.reads(7));
        refused("printed: box", NONE, x -> x.printed(3, -1));
        refused("printed: i", NONE, x -> x.printed(0, FAR));
        refused("at", NONE, x -> x.at(0, 9));
        refused("bounds: what", NONE, x -> x.bounds(8, 4));
        refused("bounds: never", NO_SUCH, x -> x.bounds(8, 0));
        refused("asks: box", NONE, x -> x.asks(3, 0));
        refused("asks: what", NONE, x -> x.asks(0, 2));
        refused("hit", NO_SUCH, x -> x.hit(60, 0));
        refused("told", NONE, x -> x.told(14));
        thinkingRefused();
        tapesRefused();
    }

    private static void thinkingRefused() {
        refused("tall", BAD, x -> x.tall(201));
        refused("reached: box", NONE, x -> x.reached(3, 0));
        refused("reached: what", NONE, x -> x.reached(0, 2));
        refused("bestShare: box", NONE, x -> x.bestShare(3, 0));
        refused("bestShare: what", NONE, x -> x.bestShare(0, -1));
        refused("fits: box", NONE, x -> x.fits(3, 0));
        refused("fits: number", NONE, x -> x.fits(0, 4));
        refused("fits: a number its KIND hasn't", NONE, x -> x.fits(2, 0));
        refused("plan: box", NONE, x -> x.plan(3, 1));
        refused("plan: box and v", NONE, x -> x.plan(-2, 10));
        refused("plan: v", BAD, x -> x.plan(1, 10));
        refused("likely: t", NO, x -> x.likely(1, 0));
        refused("likely: part", NO, x -> x.likely(2, 2));
        refused("drawn", BAD, x -> x.drawn(21));
        refused("drawn", BAD, x -> x.drawn(0));
        refused("mean: part", NO, x -> x.mean(2));
        refused("taken: k", BAD, x -> x.taken(0, 10));
        refused("taken: k, and no such BOX", BAD, x -> x.taken(3, -1));
        refused("taken: no such BOX", NOTHING, x -> x.taken(3, 0));
        refused("taken: another KIND", CAST, x -> x.taken(0, 9));
    }

    private static void tapesRefused() {
        refused("judge: tape", NONE, x -> x.judge(4, 0));
        refused("judge: no ints", CAST, x -> x.judge(1, 0));
        refused("judge: no ints, and no place", CAST, x -> x.judge(1, -1));
        refused("tape: tape", NONE, x -> x.tape(4, 2, 1));
        refused("tape: tape, sort, n", NONE, x -> x.tape(-1, 4, -1));
        refused("tape: sort", BAD, x -> x.tape(0, 4, 1));
        refused("tape: sort and n", BAD, x -> x.tape(0, -2, -1));
        refused("tape: n", BAD, x -> x.tape(0, 2, 61));
        refused("tape: a size below 0", SIZE, x -> x.tape(0, 2, -1));
        refused("item: tape", NONE, x -> x.item(4, 0, 9));
        refused("item: nothing, and no place", NOTHING, x -> x.item(3, -1, 9));
        refused("item: place", PLACE, x -> x.item(0, 3, 9));
        refused("item: place", PLACE, x -> x.item(0, -1, 9));
        refused("peek: tape", NO, x -> x.peek(4, 0));
        refused("peek: nothing", NO, x -> x.peek(3, 0));
        refused("peek: place", NO, x -> x.peek(0, 3));
        refused("shift: tape", NONE, x -> x.shift(4, 0, 0, 0, 1));
        refused("shift: other, and nothing", NONE, x -> x.shift(3, 0, 4, 0, 1));
        refused("shift: nothing", NOTHING, x -> x.shift(0, 0, 3, 0, 1));
        refused("shift: nothing, and no place", NOTHING, x -> x.shift(3, -1, 1, 0, 1));
        refused("shift: unlike sorts", CAST, x -> x.shift(0, 0, 1, 0, 1));
        refused("shift: unlike sorts, and no place", CAST, x -> x.shift(0, 9, 1, 9, 9));
        refused("shift: n below 0", PLACE, x -> x.shift(0, 0, 2, 0, -1));
        refused("shift: beyond the end", PLACE, x -> x.shift(0, 2, 2, 0, 2));
        refused("shift: beyond the other's end", PLACE, x -> x.shift(0, 1, 2, 0, 2));
        refused("shift: beyond itself", PLACE, x -> x.shift(0, 1, 0, 2, 2));
    }

    private static void aNewObject() {
        begin("a new object", LaidOutBoxes::new);
        refused("comes: parent", NONE, x -> x.comes(0, 0, 1, 1, 0, 0));
        refused("comes: kind", BAD, x -> x.comes(10, -1, 1, 1, 0, 0));
        refused("comes: a number", BAD, x -> x.comes(6, -1, 0, 1, 0, 0));
        refused("tells", NONE, x -> x.tells(0, 0, 1));
        refused("drops", NONE, x -> x.drops(0));
        refused("moves", NONE, x -> x.moves(0, 0));
        refused("screen", BAD, x -> x.screen(-1, 1000));
        refused("reads: parent", NONE, x -> x.reads(0));
        refused("reads: no letters", -100, x -> x.reads(-1));
        refused("bounds", NONE, x -> x.bounds(0, 0));
        refused("hit", NO_SUCH, x -> x.hit(0, 0));
        refused("told: no TOP", NO_SUCH, x -> x.told(2));
        refused("narrowest", NO_SUCH, x -> x.narrowest());
        refused("tall: v, and no TOP", BAD, x -> x.tall(201));
        refused("tall", NO_SUCH, x -> x.tall(9));
        refused("plan", NONE, x -> x.plan(0, 0));
        refused("mean", NO, x -> x.mean(0));
        refused("taken", NOTHING, x -> x.taken(0, 0));
        refused("judge by nothing", 100, x -> x.judge(0, 0));
        refused("item", NOTHING, x -> x.item(0, 0, 1));
        refused("shift", NOTHING, x -> x.shift(0, 0, 0, 0, 0));
        refused("undo", STATE, x -> x.undo());
    }

    /** 24 came, 120 letters, 8 rows of the PLAN. */
    private static LaidOutBoxes full() {
        LaidOutBoxes x = new LaidOutBoxes();
        for (int i = 0; i < 24; i++) {
            x.comes(i == 1 ? 2 : i == 23 ? 0 : 8, i == 0 ? -1 : i == 2 ? 1 : i < 10 ? 0 : 2 + i / 8, 1, 1, 0, 0);
        }
        x.lays();
        x.image();
        for (int i = 0; i < 120; i++) {
            x.letter("row 1 1(".charAt(i % 8));
        }
        for (int i = 0; i < 8; i++) {
            x.plan(i, i);
        }
        return x;
    }

    private static void allIsFull() {
        begin("all is full", RefusalsTest::full);
        Check.due("24 came, 120 letters, 8 rows", full().told(9) * 10000 + full().told(10) * 10 + full().told(11), 241208);
        refused("comes: FULL", FULL, x -> x.comes(0, 22, 1, 1, 0, 0));
        refused("comes: NONE ahead of FULL", NONE, x -> x.comes(0, 24, 1, 1, 0, 0));
        refused("comes: BAD ahead of FULL", BAD, x -> x.comes(0, 22, 1, -1, 0, 0));
        refused("comes: STATE ahead of FULL", STATE, x -> x.comes(0, -1, 1, 1, 0, 0));
        refused("comes: STATE ahead of FULL", STATE, x -> x.comes(0, 1, 1, 1, 0, 0));
        refused("comes: STATE ahead of FULL", STATE, x -> x.comes(0, 23, 1, 1, 0, 0));
        refused("letter: FULL", FULL, x -> x.letter(32));
        refused("letter: BAD ahead of FULL", BAD, x -> x.letter(31));
        refused("reads: NONE", NONE, x -> x.reads(24));
        refused("reads: STATE", STATE, x -> x.reads(1));
        refused("plan: FULL", FULL, x -> x.plan(0, 0));
        refused("plan: NONE ahead of FULL", NONE, x -> x.plan(24, 0));
        refused("plan: BAD ahead of FULL", BAD, x -> x.plan(0, -1));
    }

    private static LaidOutBoxes worked() {
        LaidOutBoxes x = Check.tree("row 0 0(fit,fit,fit,fit,fit,fit,fit,block 1 1)");
        for (int i = 1; i <= 8; i++) {
            x.tells(i, 5, 99);
        }
        x.lays();
        while (x.told(12) < 40000) {
            x.narrowest();
        }
        x.plan(1, 2);
        x.tells(8, 0, 2);
        return x;
    }

    private static void workIsDone() {
        begin("WORK is done", RefusalsTest::worked);
        refused("agrees", FULL, x -> x.agrees());
        refused("narrowest", FULL, x -> x.narrowest());
        refused("tall", FULL, x -> x.tall(9));
        refused("tall: BAD ahead of FULL", BAD, x -> x.tall(-1));
        refused("reached", FULL, x -> x.reached(1, 0));
        refused("reached: NONE ahead of FULL", NONE, x -> x.reached(9, 0));
        refused("bestShare", FULL, x -> x.bestShare(1, 0));
        refused("bestShare: NONE ahead of FULL", NONE, x -> x.bestShare(1, 2));
        refused("fits", FULL, x -> x.fits(8, 0));
        refused("fits: NONE ahead of FULL", NONE, x -> x.fits(1, 0));
        refused("saved", FULL, x -> x.saved());
        refused("likely", NO, x -> x.likely(2, 0));
        refused("drawn", FULL, x -> x.drawn(1));
        refused("drawn: BAD ahead of FULL", BAD, x -> x.drawn(0));
    }

    private static LaidOutBoxes left() {
        LaidOutBoxes x = withAll();
        x.lays();
        x.drops(0);
        return x;
    }

    private static void nobodyIsThere() {
        begin("nobody is there any more", RefusalsTest::left);
        refused("comes", NONE, x -> x.comes(0, 0, 1, 1, 0, 0));
        refused("tells", NONE, x -> x.tells(0, 4, 1));
        refused("drops", NONE, x -> x.drops(0));
        refused("moves", NONE, x -> x.moves(1, 0));
        refused("reads", NONE, x -> x.reads(0));
        refused("at", NONE, x -> x.at(0, 0));
        refused("asks", NONE, x -> x.asks(0, 0));
        refused("hit", NO_SUCH, x -> x.hit(0, 0));
        refused("narrowest", NO_SUCH, x -> x.narrowest());
        refused("tall", NO_SUCH, x -> x.tall(50));
        refused("reached", NONE, x -> x.reached(0, 0));
        refused("mean", NO, x -> x.mean(1));
        refused("taken", NOTHING, x -> x.taken(0, 8));
    }
}
