import java.lang.management.ManagementFactory;

/** What a whole run of the dearest calls makes stays far within the room of all calls. */
public final class RoomTest {
    private static final int CALLS = 511;
    private static final long MOST_ELEMENTS = 7_300_000L;
    private static final int BYTES_OF_AN_INT = 4;

    public static void main(String[] args) {
        TileStudio studio = Make.studio(24, 24);
        studio.layer(1);
        studio.layer(2);
        studio.brush(-1, 7);
        studio.copy(0);
        Runnable[] calls = {
            () -> studio.make(24, 24), () -> studio.select(11, 0, 0, Make.size(24, 24)), () -> studio.move(0, 0),
            () -> studio.fill(0, 1), () -> studio.gradient(0, 1, 2, 0), () -> studio.stroke(0, 0, Make.at(23, 23)),
            () -> studio.flood(0, 0, 0, 5, 255), () -> studio.paste(0, 1, 1), () -> studio.mirror(0, 0),
            () -> studio.shift(0, 1, 1), () -> studio.blur(0, 4), () -> studio.save(-1), studio::open,
            () -> studio.view(3, 0, 0), () -> studio.count(3), TileStudio::new};
        for (int i = 0; i < calls.length; i++) {
            calls[i].run();
            long elements = madeBy(calls[i]) / BYTES_OF_AN_INT;
            Check.holds("call " + i + " makes " + elements + " in a run", elements < MOST_ELEMENTS / 10);
        }
        Check.finish();
    }

    private static long madeBy(Runnable call) {
        com.sun.management.ThreadMXBean threads =
                (com.sun.management.ThreadMXBean) ManagementFactory.getThreadMXBean();
        long before = threads.getCurrentThreadAllocatedBytes();
        for (int i = 0; i < CALLS; i++) {
            call.run();
        }
        return threads.getCurrentThreadAllocatedBytes() - before;
    }
}
