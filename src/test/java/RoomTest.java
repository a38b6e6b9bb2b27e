import java.lang.management.ManagementFactory;

/** All calls of a run live in one room that is never swept: an object is small, and calls make nothing new. */
public final class RoomTest {
    private static final com.sun.management.ThreadMXBean THREADS =
        (com.sun.management.ThreadMXBean) ManagementFactory.getThreadMXBean();
    // 4 bytes for most elements, so some 12,000 elements with every image and proof made.
    private static final long MOST_FOR_ALL = 32000, MOST_FOR_NEW = 12000, MOST_FOR_CALLS = 1000;

    private static long sum = 0;

    private static long taken() {
        return THREADS.getThreadAllocatedBytes(Thread.currentThread().getId());
    }

    private static void useAll(FlyerRoom x) {
        for (int i = 0; i < 20; i++) {
            sum += x.lanes(3) + x.step(9, 0, 0, 0) + x.part(0, 0, 5) + x.slot(0, i, 1) + x.word(0, 1, 3) + x.aside(2, 2);
            sum += x.sensor(i % 2, i, i, i) + x.body(100, 0) + x.air(100, 3, 7) + x.limit(0, -9, 9) + x.write('h') + x.fault();
            sum += x.harm(0, x.now(4) + 1, 1, 0, i) + x.piece(0, 0, 1, 0) + x.seal(0) + x.begin(x.now(4) + 2, x.seal(1));
            sum += x.fly(2) + x.cell(0, 0) + x.lane(0, 1) + x.voted(0, 0) + x.sensed(0) + x.box(i) + x.clock(0, i, i);
            sum += x.fate(0, 0, 3, 5, 0) + x.fates(1, 3, 2) + x.cause() + x.guess(0, 2) + x.near(20) + x.count(3) + x.digest();
            sum += x.image(i % 2) + x.from(i % 2) + x.unslot() + x.unbox() + x.erase() + x.leave();
        }
    }

    private static boolean within(String what, long bytes, long most) {
        System.out.println(what + ": " + bytes + " bytes of at most " + most);
        return bytes <= most;
    }

    public static void main(String[] args) {
        // Once ahead of the measuring, so that what the machine itself loads is not counted.
        useAll(new FlyerRoom());
        taken();
        long start = taken();
        FlyerRoom x = new FlyerRoom();
        long made = taken();
        useAll(x);
        long used = taken();
        useAll(x);
        long again = taken();
        boolean holds = within("a new object", made - start, MOST_FOR_NEW);
        holds &= within("all calls of a new object", used - start, MOST_FOR_ALL);
        holds &= within("all calls once more", again - used, MOST_FOR_CALLS);
        System.out.println(holds ? "the room is kept" : "the room is not kept (" + sum + ")");
        if (!holds) System.exit(1);
    }
}
