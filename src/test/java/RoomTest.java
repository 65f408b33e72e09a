import com.sun.management.ThreadMXBean;
import java.lang.management.ManagementFactory;
import java.util.function.Consumer;

/**
 * What a run of 512 calls of one object makes, in bytes: the room that all runs share takes some 29 million of them,
 * and a run may take a small part of it only, also if each call is the dearest one.
 */
public final class RoomTest {
    private static final int CALLS = 512;
    private static final long MOST_BYTES = 100_000;

    private final Checks checks = new Checks();
    private final ThreadMXBean threads = (ThreadMXBean) ManagementFactory.getThreadMXBean();

    public static void main(String[] args) {
        RoomTest test = new RoomTest();
        test.run("digest", LatheCopies::digest);
        test.run("undoable calls", lathe -> lathe.carve(0, 0, 50));
        test.run("snapshots", lathe -> {
            lathe.keep(lathe.savedStates() % 2);
            lathe.goBack(0);
        });
        test.run("passes", lathe -> {
            lathe.sweep();
            lathe.sharpen();
            lathe.passUpTo(30);
        });
        test.run("what would be", lathe -> {
            lathe.passesBySteps();
            lathe.ifPassed();
        });
        test.run("readings", lathe -> lathe.readingByQueue(15));
        test.run("gauging", LatheCopies::bestCopy);
        test.run("texts", lathe -> {
            lathe.append('5');
            lathe.firstError();
            lathe.clearBuffer();
        });
        test.run("blanks", lathe -> {
            lathe.burn(1);
            lathe.addBlank(2, 120);
        });
        test.checks.end();
    }

    /** The first runs load what the machine needs, and count for nothing. */
    private void run(String what, Consumer<LatheCopies> calls) {
        bytes(calls);
        bytes(calls);
        long bytes = bytes(calls);
        checks.due(what + " take at most " + MOST_BYTES + " bytes, not " + bytes, bytes <= MOST_BYTES, true);
    }

    private long bytes(Consumer<LatheCopies> calls) {
        long thread = Thread.currentThread().getId();
        long before = threads.getThreadAllocatedBytes(thread);
        LatheCopies lathe = new LatheCopies();
        for (int piece = 0; piece < 5; piece++) {
            lathe.addBlank(piece % 3, 120);
        }
        lathe.mount(0);
        lathe.keep(0);
        lathe.keep(1);
        for (int round = 0; round < (CALLS - 8) / 3; round++) {
            calls.accept(lathe);
        }
        return threads.getThreadAllocatedBytes(thread) - before;
    }
}
