import com.sun.management.ThreadMXBean;
import java.lang.management.ManagementFactory;
import java.util.function.Consumer;

/**
 * What a run of 512 calls of one object makes, in bytes: the room that all runs share takes some 29 million of them,
 * and a run may take a small part of it only, also if each call is the dearest one.
 */
public final class RoomTest {
    private static final int CALLS = 512;
    private static final int CALLS_BEFORE = 8;
    private static final long MOST_BYTES = 100_000;

    private final Checks checks = new Checks();
    private final ThreadMXBean threads = (ThreadMXBean) ManagementFactory.getThreadMXBean();

    public static void main(String[] args) {
        RoomTest test = new RoomTest();
        test.run("digest", 1, LatheCopies::digest);
        test.run("undoable calls", 1, lathe -> lathe.carve(0, 0, 50));
        test.run("snapshots", 3, lathe -> {
            lathe.keep(lathe.savedStates() % 2);
            lathe.goBack(0);
        });
        test.run("passes", 3, lathe -> {
            lathe.sweep();
            lathe.sharpen();
            lathe.passUpTo(30);
        });
        test.run("what would be", 2, lathe -> {
            lathe.passesBySteps();
            lathe.ifPassed();
        });
        test.run("readings", 1, lathe -> lathe.readingByQueue(15));
        test.run("gauging", 1, LatheCopies::bestCopy);
        test.run("texts", 3, lathe -> {
            lathe.append('5');
            lathe.firstError();
            lathe.clearBuffer();
        });
        test.run("blanks", 2, lathe -> {
            lathe.burn(1);
            lathe.addBlank(2, 120);
        });
        test.checks.end();
    }

    /** The first runs load what the machine needs, and count for nothing. */
    private void run(String what, int inARound, Consumer<LatheCopies> calls) {
        bytes(inARound, calls);
        bytes(inARound, calls);
        long bytes = bytes(inARound, calls);
        checks.due(what + " take at most " + MOST_BYTES + " bytes, not " + bytes, bytes <= MOST_BYTES, true);
    }

    private long bytes(int inARound, Consumer<LatheCopies> calls) {
        long thread = Thread.currentThread().getId();
        long before = threads.getThreadAllocatedBytes(thread);
        LatheCopies lathe = new LatheCopies();
        for (int piece = 0; piece < 5; piece++) {
            lathe.addBlank(piece % 3, 120);
        }
        lathe.mount(0);
        lathe.keep(0);
        lathe.keep(1);
        for (int round = 0; round < (CALLS - CALLS_BEFORE) / inARound; round++) {
            calls.accept(lathe);
        }
        return threads.getThreadAllocatedBytes(thread) - before;
    }
}
