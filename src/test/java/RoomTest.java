import java.lang.management.ManagementFactory;

/**
 * All calls of one run live in one room: no call of the dear ones makes anything, all is made with
 * the object. Two passes, because the first call of a method may make what belongs to the machine.
 */
public final class RoomTest {
    private static final int TIMES = 40;
    private static final long FOR_THE_MACHINE = 4096;

    private static void callAll(BeardHire x) {
        x.wipe();
        x.feed('b' << 24 | 'e' << 16 | 'a' << 8 | 'r', 4);
        x.feed('d', 1);
        x.shop();
        x.nights(1);
        x.on(0, 200, 0);
        x.then(0, 200, 0);
        x.fond(0, 200);
        x.home(0);
        x.falls(0, 0);
        x.best(1, 60);
        x.round(0, 60);
        x.kind(0, 60);
        x.enough(0, 60);
        x.please(0, 0, 60, 9999);
        x.richest(200);
        x.sheet(0, 64, 40);
        x.write(0, 0, 1);
        x.copy(0, 0, 0, 1, 39);
        x.book(0, 0);
        x.read(0, 0, 0);
        x.lays(0);
        x.image();
        x.undo();
    }

    public static void main(String[] args) {
        com.sun.management.ThreadMXBean threads =
            (com.sun.management.ThreadMXBean) ManagementFactory.getThreadMXBean();
        long self = Thread.currentThread().getId();
        BeardHire x = Due.told("beard;imperial;wearer 9999;wearer 99;hire 0 0");
        long made = 0;
        for (int pass = 0; pass < 2; pass++) {
            long before = threads.getThreadAllocatedBytes(self);
            for (int time = 0; time < TIMES; time++) {
                callAll(x);
            }
            made = threads.getThreadAllocatedBytes(self) - before;
        }
        System.out.println("the calls made " + made + " bytes");
        if (made > FOR_THE_MACHINE) {
            System.out.println("that is more than " + FOR_THE_MACHINE);
            System.exit(1);
        }
    }
}
