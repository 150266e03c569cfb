import java.lang.management.ManagementFactory;

/** All calls of a run live in one room: what the calls make, beside the object itself, must stay next to nothing. */
public final class RoomTest {
    private static final int CALLS = 512;
    /** Some of it is the measuring's own. */
    private static final long MOST_BYTES_A_CALL = 64;
    private static final long MOST_BYTES_AN_OBJECT = 64 * 1024;

    public static void main(String[] args) {
        com.sun.management.ThreadMXBean threads =
                (com.sun.management.ThreadMXBean) ManagementFactory.getThreadMXBean();
        long thread = Thread.currentThread().getId();
        play(new LaidOutBoxes());
        long before = threads.getThreadAllocatedBytes(thread);
        LaidOutBoxes x = new LaidOutBoxes();
        long made = threads.getThreadAllocatedBytes(thread);
        play(x);
        long after = threads.getThreadAllocatedBytes(thread);
        System.out.println("an object: " + (made - before) + " bytes, all calls: " + (after - made) + " bytes");
        Check.due("an object is small", made - before <= MOST_BYTES_AN_OBJECT ? 1 : 0, 1);
        Check.due("calls make next to nothing", after - made <= CALLS * MOST_BYTES_A_CALL ? 1 : 0, 1);
        Check.end("room");
    }

    private static long play(LaidOutBoxes x) {
        long sum = 0;
        sum += x.comes(8, -1, 4, 1, 0, 0);
        for (int i = 1; i < 20; i++) {
            sum += x.comes(i % 10, i % 10 == 9 ? 0 : Math.max(0, x.told(9) / 9 * 8 - 8), 1, 1, 1, 1);
        }
        for (int i = 0; i < CALLS - 20; i++) {
            int box = i % 20;
            switch (i % 24) {
                case 0: sum += x.lays(); break;
                case 1: sum += x.tells(box, 0, 1 + i % 2); break;
                case 2: sum += x.narrowest(); break;
                case 3: sum += x.likely(2 + i % 9, i % 2); break;
                case 4: sum += x.drawn(20); break;
                case 5: sum += x.fits(box, 0); break;
                case 6: sum += x.bestShare(box, 0); break;
                case 7: sum += x.saved(); break;
                case 8: sum += x.plan(box, i % 10); break;
                case 9: sum += x.agrees(); break;
                case 10: sum += x.printed(0, i % 30); break;
                case 11: sum += x.image(); break;
                case 12: sum += x.undo(); break;
                case 13: sum += x.tape(i % 4, 2, 60); break;
                case 14: sum += x.shift(i % 4, 0, i % 4, 5, 9); break;
                case 15: sum += x.judge(i % 4, 0); break;
                case 16: sum += x.letter(97 + i % 20); break;
                case 17: sum += x.reads(box); break;
                case 18: sum += x.asks(box, i % 2); break;
                case 19: sum += x.hit(i % 50, i % 20); break;
                case 20: sum += x.reached(box, 0); break;
                case 21: sum += x.tall(i % 200); break;
                case 22: sum += x.mean(i % 2); break;
                default: sum += x.screen(i % 200, i % 200);
            }
        }
        return sum;
    }
}
