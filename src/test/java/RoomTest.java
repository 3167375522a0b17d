import java.lang.management.ManagementFactory;

/** All calls of a run live in one room: an object makes its rows at first, and its calls make nothing. */
public final class RoomTest {
    private static final Due DUE = new Due("RoomTest");
    private static final int ROUNDS = 200;
    /** So few bytes for many thousand calls that not one of them can have made an object each time. */
    private static final long SLACK = 50000;

    private static long kept = 0;

    public static void main(String[] args) {
        com.sun.management.ThreadMXBean room = (com.sun.management.ThreadMXBean) ManagementFactory.getThreadMXBean();
        FogSchool x = Due.inFog(3);
        fill(x);
        all(x);
        long before = room.getCurrentThreadAllocatedBytes();
        for (int i = 0; i < ROUNDS; i++) {
            all(x);
        }
        long made = room.getCurrentThreadAllocatedBytes() - before;
        DUE.holds(made + " bytes in " + ROUNDS + " rounds of all calls", made <= SLACK);

        FogSchool[] many = new FogSchool[100];
        before = room.getCurrentThreadAllocatedBytes();
        for (int i = 0; i < many.length; i++) {
            many[i] = new FogSchool();
        }
        made = room.getCurrentThreadAllocatedBytes() - before;
        DUE.holds(made / many.length + " bytes an object", made / many.length <= 8000);
        DUE.holds("answers were used", kept != 1);
        DUE.end();
    }

    private static void fill(FogSchool x) {
        for (int k = 0; k < 8; k++) {
            x.keeper(k % 7, k);
        }
        for (int c = 0; c < 6; c++) {
            x.child(2 * c, c + 3);
        }
    }

    private static void all(FogSchool x) {
        kept += x.fog(0, 4) + x.listed(0) + x.keeper(0, 0) + x.child(0, 0) + x.of(2, 6) + x.change(3, 2, 4) + x.ofChild(0, 2);
        kept += x.teach(1, 2, 15) + x.hears(2, 5) + x.go(2) + x.now(4) + x.ahead(2, 6, 50) + x.later(3, 3, 50) + x.learns(5, 11);
        kept += x.taught(11) + x.weary(0, 99) + x.seatFor(1, 60) + x.quickFor(1, 11, 60) + x.kindFor(3, 60) + x.fogFor(2, 72, 60);
        kept += x.hush(20) + x.sheet(0, 16, 40) + x.sheet(1, 16, 40) + x.write(0, 0, -1) + x.copy(0, 0, 1, 1, 20) + x.fits(0, 2);
        kept += x.kinds(0, 3) + x.autumn(3) + x.odds(1, 1, 17, 0) + x.seed(5) + x.feed(0x666f6720, 4) + x.feed(0x332034, 3);
        kept += x.text() + x.feed(0x63, 1) + x.text() + x.wipe() + x.hold(3, 4) + x.as(3, 2) + x.load(1) + x.judge(0) + x.image();
        kept += x.undo() + x.tear() + x.count(7) + x.status(-1);
    }
}
