import java.lang.management.ManagementFactory;

/** All calls of a run live in one room, so calls make nothing: the rows are made once, by the constructor. */
public final class RoomTest {
    private static final int ROUNDS = 64;
    private static int sink = 0;

    public static void main(String[] args) {
        DuskOnRopes x = Check.laid("r0,5,2,3;r5,4,3,9;r11,1,3,12;r17,5,1,0;r23,3,2,15;"
            + "w2,1;w8,1;w14,1;w20,2;w23,2;m1;m6;m10;m17;m20;m23;c2,5;");
        for (int i = 0; i < ROUNDS; i++) {
            dearCalls(x, i);
        }
        var threads = (com.sun.management.ThreadMXBean) ManagementFactory.getThreadMXBean();
        long id = Thread.currentThread().getId();
        threads.getThreadAllocatedBytes(id);
        long before = threads.getThreadAllocatedBytes(id);
        for (int i = 0; i < ROUNDS; i++) {
            dearCalls(x, i);
        }
        long made = threads.getThreadAllocatedBytes(id) - before;
        // The measuring itself makes a little; a row of five numbers for each call would make 40,000 bytes.
        Check.holds("calls make nothing, but " + made + " bytes were made", made < 10_000);
        Check.holds("calls were made", sink != 1);
        Check.end("RoomTest");
    }

    private static void dearCalls(DuskOnRopes x, int i) {
        x.undo();
        sink += x.fault() + x.lay() + x.rope(i % 5, 3) + x.sky(i % 24) + x.light(i % 24);
        sink += x.hour(i % 32, 0) + x.grease(i % 5) + x.undo() + x.met() + x.noon() + x.soon(i % 24, 3);
        sink += x.plan(-1) + x.plan(i % 5) + x.best(12, i % 2) + x.posts(-1) + x.posts(i % 5) + x.brown(2);
        sink += x.seen(i % 24, 9) + x.slipped(0) + x.look(0) + x.forget() + x.look(1) + x.paces(i % 5, 8, 40);
        sink += x.slips(i % 5, 6, 3, 1, 0) + x.spent(0) + x.evening(i, 24, 0) + x.keep() + x.back() + x.count(4);
    }
}
