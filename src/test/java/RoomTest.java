import java.lang.management.ManagementFactory;

/** A run of 512 calls keeps far below 600,000 objects and 7.3 million elements, whatever it calls. */
public final class RoomTest {
    private static final int CALLS = 512;
    /** Once all calls are 81, so that an object that is warm has room for five times more below 512. */
    private static final int WARM = 40;
    private static final int ROUNDS = 5;
    /** A new object is the dearest call; 7.3 million elements in 512 calls leave some 14,000 for each. */
    private static final long MOST_BYTES_OF_A_NEW_OBJECT = 16_000;

    private RoomTest() {
    }

    private static long bytes() {
        com.sun.management.ThreadMXBean threads =
            (com.sun.management.ThreadMXBean) ManagementFactory.getThreadMXBean();
        return threads.getThreadAllocatedBytes(Thread.currentThread().getId());
    }

    public static void main(String[] args) {
        StagedTables[] warm = new StagedTables[WARM];
        for (int i = 0; i < WARM; i++) {
            warm[i] = new StagedTables();
            callAll(warm[i]);
        }
        bytes();

        long before = bytes();
        StagedTables[] made = new StagedTables[CALLS];
        for (int i = 0; i < CALLS; i++) {
            made[i] = new StagedTables();
        }
        long each = (bytes() - before) / CALLS;
        Due.isTrue("a new object takes " + each + " bytes", each <= MOST_BYTES_OF_A_NEW_OBJECT);

        before = bytes();
        for (int i = 0; i < WARM * ROUNDS; i++) {
            callAll(warm[i % WARM]);
        }
        long more = bytes() - before;
        Due.isTrue("calls on objects that have their images take " + more + " bytes", more < 10_000);
        Due.end();
    }

    private static void callAll(StagedTables x) {
        for (int t = 0; t < 8; t++) {
            x.table(t % 6);
            x.entry(t, t, 5, 1, t % 4);
            x.otherwise(t, 9, 0, 0);
            x.told(t, 2);
            x.told(t, 3);
            x.needs(t, 0);
        }
        x.rule(1, 4);
        x.stages();
        x.stage(0, 0);
        x.fewest();
        x.tell(0, 1);
        x.put(0, 1);
        x.register(0);
        x.run();
        x.out(0);
        x.took(0, 0);
        x.image(0);
        x.image(1);
        x.restore(0);
        x.count(8);
        x.count(9);
        x.forget(0, 0);
        while (x.count(0) > 0) {
            x.drop(0);
        }
    }
}
