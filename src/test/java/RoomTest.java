import java.lang.management.ManagementFactory;

/** The room of a run: the largest network, then the dearest calls up to the 512th. */
final class RoomTest {
    private static final int CALLS = 512;
    // A tenth of the least that 600,000 objects can take.
    private static final long MOST_BYTES = 960000;

    private RoomTest() {
    }

    public static void main(String[] args) {
        com.sun.management.ThreadMXBean threads =
            (com.sun.management.ThreadMXBean) ManagementFactory.getThreadMXBean();
        long id = Thread.currentThread().getId();
        run();
        long before = threads.getThreadAllocatedBytes(id);
        int answered = run();
        long used = threads.getThreadAllocatedBytes(id) - before;
        Check.due("four rides are told: " + answered, answered > 250);
        Check.due("bytes for a run: " + used, used < MOST_BYTES);
        Check.end("RoomTest");
    }

    private static int run() {
        Connectory x = new Connectory();
        int calls = 0;
        for (int i = 0; i < 10; i++) {
            x.stop(i % 3);
            calls++;
        }
        for (int trip = 0; trip < 20; trip++) {
            x.trip(trip % 3, trip % 3, 100, 127, trip % 10, 60 * trip);
            for (int place = 1; place < 6; place++) {
                x.calls(trip, (trip * 3 + place * 7) % 10, 30, 2);
            }
            calls += 6;
        }
        for (int i = 0; i < 30; i++) {
            x.book(i % 3, 9, 0, 4);
            calls++;
        }
        int answered = 0;
        for (; calls < CALLS; calls++) {
            answered += x.best(calls % 5, 5 + calls % 4, calls) > 0 && x.arrivalAnew(0, 9, calls, 2) > 0 ? 1 : 0;
        }
        return answered;
    }
}
