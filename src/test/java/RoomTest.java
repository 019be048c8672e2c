import java.lang.management.ManagementFactory;

/** A run lives in one room: what an object and its 512 dearest calls make must stay small. */
public final class RoomTest {
    private static final Check CHECK = new Check("RoomTest");
    private static final com.sun.management.ThreadMXBean THREADS =
            (com.sun.management.ThreadMXBean) ManagementFactory.getThreadMXBean();

    public static void main(String[] args) {
        made();
        HeaveSongs warm = full();
        dearCalls(warm, 40);
        long start = made();
        HeaveSongs x = full();
        long object = made() - start;
        CHECK.holds("an object in all makes " + object + " bytes", object < 40_000);
        start = made();
        dearCalls(x, 512);
        long calls = made() - start;
        CHECK.holds("512 dear calls make " + calls + " bytes", calls < 40_000);
        CHECK.end();
    }

    private static long made() {
        return THREADS.getThreadAllocatedBytes(Thread.currentThread().getId());
    }

    private static HeaveSongs full() {
        HeaveSongs x = new HeaveSongs();
        for (int s = 0; s < 6; s++) {
            for (int i = 0; i < 24; i++) {
                x.beat((i + s) % 4);
            }
            x.song();
            for (int i = 0; i < 12; i++) {
                x.beat((i * s) % 4);
            }
            x.refrain(s);
        }
        for (int h = 0; h < 10; h++) {
            x.hand(90 + h, h, 3, 5);
        }
        for (int i = 0; i < 4; i++) {
            x.task(40, 400, 1);
        }
        for (int w = 0; w < 12; w++) {
            x.word(w % 2 + 1, w % 2);
        }
        for (int m = 0; m < 60; m++) {
            x.mark(5 * m, 7 * m);
        }
        return x;
    }

    private static void dearCalls(HeaveSongs x, int many) {
        for (int i = 0; i < many; i++) {
            switch (i % 12) {
                case 0: x.plan(); break;
                case 1: x.best(0, 1, 5, 0); break;
                case 2: x.lines(2); break;
                case 3: x.lineAt(1, 3, 1); break;
                case 4: x.near(3); break;
                case 5: x.nearAt(3, 2); break;
                case 6: x.who(2, 100, 2, 0); break;
                case 7: x.two(3, 100, 2, 0); break;
                case 8: x.hangs(4); break;
                case 9: x.haul(i % 6, 100, 300, 2); break;
                case 10: x.digest(); break;
                default: x.pause(i % 101); break;
            }
        }
    }
}
