import java.lang.management.ManagementFactory;

/** All calls of one run live in one room of some 7.3 million elements and 600,000 objects: the dearest runs stay far below. */
public final class RoomTest {
    /** Were each element four bytes wide and each object ten bytes, the room would have more than this. */
    private static final long MOST_BYTES = 6000000;
    private static long spent = 0;

    private static long bytes() {
        return ((com.sun.management.ThreadMXBean) ManagementFactory.getThreadMXBean()).getThreadAllocatedBytes(Thread.currentThread().getId());
    }

    /** A LAW, told with few calls: 80 bytes of it. */
    private static void tellLaw(MissCurves x) {
        x.feed(0x636f7374, 0x73206b65, 0x792b6b65, 0x792b6b65, 0x792b6b65);
        x.feed(0x79206966, 0x206b6579, 0x3d31206f, 0x72206b65, 0x793d3220);
        x.feed(0x6f72206b, 0x65793d33, 0x206f7220, 0x6b65793d, 0x34206f72);
        x.feed(0x206b6579, 0x3d35206f, 0x72206b65, 0x793d3620, 0x20202020);
    }

    private static long call(MissCurves x, int kind, int i) {
        switch (kind) {
            case 0:
                if (i % 24 == 0) {
                    x.back(0);
                }
                tellLaw(x);
                return x.law();
            case 1:
                return x.report(i % 4);
            case 2:
                return x.few(20, 99);
            case 3:
                return x.best(48, i % 4) + x.share(48, i % 4);
            case 4:
                return x.spilt(i % 4) + x.odd(i % 4);
            case 5:
                return x.months(i, 60);
            case 6:
                return x.image(i % 2) + x.back(i % 2);
            case 7:
                return x.loop(i % 4, i, i + 31);
            default:
                return x.undo() + x.read(i % 4, i) + x.pass();
        }
    }

    public static void main(String[] args) {
        int wrong = 0;
        bytes();
        for (int kind = 0; kind <= 8; kind++) {
            long before = bytes();
            MissCurves x = new MissCurves();
            x.image(0);
            for (int i = 0; i < 510; i++) {
                spent += call(x, kind, i);
            }
            long made = bytes() - before;
            if (made > MOST_BYTES) {
                wrong++;
                System.out.println("a run of calls of kind " + kind + " makes " + made + " bytes");
            }
        }
        System.out.println(wrong == 0 ? "no run makes too much" : wrong + " runs make too much");
        if (wrong != 0) {
            System.exit(1);
        }
    }
}
