import java.lang.management.ManagementFactory;

/** How much room a call takes: all calls of a run live in one room of some 600,000 objects. */
public final class RoomTest {
    private static final Check CHECK = new Check("RoomTest");
    private static final int CALLS = 150;
    private static final String[] NAMES = {
        "fleet", "where", "can", "soonest", "likely", "fewest", "crews", "mixesMost", "letter", "law",
        "together", "moved", "seeded", "judge", "image", "restore", "row", "copy", "keep", "toss",
    };

    public static void main(String[] args) {
        for (int call = 0; call < NAMES.length; call++) {
            Ships sea = full();
            used(sea, call);
            long bytes = used(sea, call);
            // a handful of small objects a call; what toss throws is the largest of them
            CHECK.holds(NAMES[call] + " takes " + bytes / CALLS + " bytes a call", bytes / CALLS < 1024);
        }
        CHECK.end();
    }

    private static Ships full() {
        Ships sea = Sea.of("s30;s30;s30;s30;s30;m001;m010;m100;m122;m211;m220;m301;m302;m413;m412;m431;m430;");
        Sea.bytes(sea, 0, 0, 1, 1, 2, 2, 3, 3, 4, 4, 0, 0, 2, 1, 3, 2, 4, 3, 0, 4, 1, 0, 3, 4, 2);
        Sea.bytes(sea, 1, 1, 1, 0, 2, 2, 3, 3, 4, 4, 4, 0, 0);
        Sea.text(sea, 2, "x01;s00;");
        sea.keep(3, 1, 7, 5);
        return sea;
    }

    private static long used(Ships sea, int call) {
        com.sun.management.ThreadMXBean bean = (com.sun.management.ThreadMXBean) ManagementFactory.getThreadMXBean();
        long thread = Thread.currentThread().getId();
        long before = bean.getThreadAllocatedBytes(thread);
        long sum = 0;
        for (int i = 0; i < CALLS; i++) {
            sum += called(sea, call);
        }
        long behind = bean.getThreadAllocatedBytes(thread);
        CHECK.holds(NAMES[call] + " answers", sum > Integer.MIN_VALUE);
        return behind - before;
    }

    private static long called(Ships sea, int call) {
        switch (call) {
            case 0:
                return sea.fleet(2);
            case 1:
                return sea.where(0, 0);
            case 2:
                return sea.can(0, 0);
            case 3:
                return sea.soonest(0, 4, 0);
            case 4:
                return sea.likely(0, 4, 0, 1);
            case 5:
                return sea.fewest(11, 0, 1);
            case 6:
                return sea.crews(1);
            case 7:
                return sea.mixesMost();
            case 8:
                return sea.letter(0, 0);
            case 9:
                return sea.law(0, 0, 7, 3);
            case 10:
                return sea.together(0, 1, 0);
            case 11:
                return sea.moved(0, 0);
            case 12:
                return sea.seeded(0, 40, 7);
            case 13:
                return sea.judge(0);
            case 14:
                return sea.image();
            case 15:
                return sea.restore();
            case 16:
                return sea.row(4, 2, 100);
            case 17:
                return sea.copy(4, 0, 4, 1, 99);
            case 18:
                return sea.keep(5, 1, 7, 3);
            default:
                return sea.toss(3);
        }
    }
}
