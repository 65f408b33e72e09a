import java.util.ArrayList;
import java.util.List;
import java.util.function.Consumer;

/** The sentences of the document that name ends of saved states and slots. */
public final class HistoryEdgesTest {
    private static final Class<IllegalArgumentException> ARGUMENT = IllegalArgumentException.class;
    private static final Class<IllegalStateException> STATE = IllegalStateException.class;

    private final Checks checks = new Checks();

    public static void main(String[] args) {
        HistoryEdgesTest test = new HistoryEdgesTest();
        test.atMostSix();
        test.oldestDroppedFirst();
        test.droppedByEachUndoable();
        test.undoAndSaveAgain();
        test.emptyRowOfStates();
        test.savedAlsoIfNothingIsChanged();
        test.notSavedByTheOthers();
        test.stateFromBeforeIt();
        test.allButTheBufferAndTheSlots();
        test.allIsInASnapshot();
        test.firstAndLastSlot();
        test.inPlaceOfTheOneInTheSlot();
        test.snapshotStays();
        test.goBackWithSixSaved();
        test.followersPassesAreOfTheState();
        test.checks.end();
    }

    private void atMostSix() {
        checks.sentence("At most 6 states are saved; the oldest one is dropped first.");
        LatheCopies lathe = new LatheCopies();
        for (int call = 1; call <= 20; call++) {
            lathe.changeTolerance(call);
            checks.due("savedStates behind " + call + " calls", lathe.savedStates(), Math.min(6, call));
        }
        for (int left = 5; left >= 0; left--) {
            lathe.undo();
            checks.due("savedStates", lathe.savedStates(), left);
        }
        checks.refused("undo of none", lathe, STATE, lathe::undo);
    }

    private void oldestDroppedFirst() {
        checks.sentence("At most 6 states are saved; the oldest one is dropped first.");
        for (int calls = 1; calls <= 14; calls++) {
            LatheCopies lathe = new LatheCopies();
            List<Long> digests = new ArrayList<>();
            for (int call = 1; call <= calls; call++) {
                digests.add(withoutSaved(lathe));
                lathe.carve(call % 3, call, 40 + call);
            }
            for (int back = 1; back <= Math.min(6, calls); back++) {
                lathe.undo();
                checks.due("state " + back + " back of " + calls, withoutSaved(lathe), digests.get(calls - back));
            }
            checks.due("savedStates", lathe.savedStates(), 0);
            checks.refused("undo of a dropped one", lathe, STATE, lathe::undo);
        }
    }

    /** A mark of the masters alone, which has nothing of how many states are saved. */
    private static long withoutSaved(LatheCopies lathe) {
        long mark = 0;
        for (int step = 1; step <= 14; step++) {
            mark = 100 * mark + lathe.masterAt(step % 3, step);
        }
        return mark;
    }

    /** With six states saved, each undoable call drops the oldest one, and no other. */
    private void droppedByEachUndoable() {
        checks.sentence("At most 6 states are saved; the oldest one is dropped first.");
        for (int number = 0; number < unchanging().size(); number++) {
            LatheCopies lathe = usual();
            for (int depth = 4; depth <= 9; depth++) {
                lathe.changeDepth(depth);
            }
            checks.due("savedStates", lathe.savedStates(), 6);
            lathe.keep(1);
            unchanging().get(number).accept(lathe);
            checks.due("savedStates behind call " + number, lathe.savedStates(), 6);
            for (int depth : new int[] {9, 8, 7, 6, 5, 4}) {
                lathe.undo();
                checks.due("depth behind call " + number, lathe.depth(), depth);
            }
            checks.due("savedStates", lathe.savedStates(), 0);
        }
    }

    private void undoAndSaveAgain() {
        checks.sentence("Restores the latest saved state, and drops it.");
        LatheCopies lathe = new LatheCopies();
        for (int speed : new int[] {1, 3, 4, 5}) {
            lathe.changeSpeed(speed);
        }
        lathe.undo();
        lathe.undo();
        checks.due("speed", lathe.speed(), 3);
        lathe.changeSpeed(2);
        checks.due("savedStates", lathe.savedStates(), 3);
        lathe.undo();
        checks.due("speed", lathe.speed(), 3);
        lathe.undo();
        checks.due("speed", lathe.speed(), 1);
        lathe.undo();
        checks.due("speed at first", lathe.speed(), 2);
        checks.due("savedStates", lathe.savedStates(), 0);
        checks.refused("undo of none", lathe, STATE, lathe::undo);
    }

    private void emptyRowOfStates() {
        checks.sentence("Returns 0 to 6.");
        LatheCopies lathe = new LatheCopies();
        checks.due("savedStates of a new one", lathe.savedStates(), 0);
        checks.refused("undo of a new one", lathe, STATE, lathe::undo);
        lathe.sweep();
        checks.due("savedStates of one", lathe.savedStates(), 1);
        lathe.undo();
        checks.due("savedStates of none again", lathe.savedStates(), 0);
        checks.refused("undo again", lathe, STATE, lathe::undo);
    }

    private static LatheCopies usual() {
        LatheCopies lathe = Checks.mounted(0, 30);
        Checks.type(lathe, "30x16");
        lathe.keep(0);
        return lathe;
    }

    /** Each undoable call as one that leaves all that can be told as it is, or nearly so. */
    private static List<Consumer<LatheCopies>> unchanging() {
        return List.of(
                lathe -> lathe.carve(2, 15, 30), lathe -> lathe.copyMaster(1, 1), lathe -> lathe.copyMaster(0, 2),
                lathe -> lathe.mirrorMaster(1), lathe -> lathe.chooseMaster(0), lathe -> lathe.fitFollower(1),
                lathe -> lathe.changeOffset(0), LatheCopies::sharpen, lathe -> lathe.changeDepth(lathe.depth()),
                lathe -> lathe.changeSpeed(2), lathe -> lathe.changeTolerance(2), LatheCopies::sweep,
                lathe -> lathe.addBlank(0, 20), LatheCopies::takeOut, LatheCopies::pass, lathe -> lathe.passUpTo(30),
                lathe -> lathe.sand(3), lathe -> lathe.loadMaster(1), lathe -> lathe.goBack(slotOfNow(lathe)));
    }

    /** The slot that is filled with the state of now: 1 for a lathe whose depth has been changed, otherwise 0. */
    private static int slotOfNow(LatheCopies lathe) {
        return lathe.depth() == 9 ? 1 : 0;
    }

    private void savedAlsoIfNothingIsChanged() {
        checks.sentence("saves the state from before it, also if it changes nothing");
        int number = 0;
        for (Consumer<LatheCopies> call : unchanging()) {
            LatheCopies lathe = usual();
            checks.due("savedStates", lathe.savedStates(), 2);
            call.accept(lathe);
            checks.due("savedStates behind call " + number, lathe.savedStates(), 3);
            lathe.undo();
            checks.due("savedStates undone behind call " + number, lathe.savedStates(), 2);
            checks.due("pieces", lathe.pieces(), 1);
            checks.due("mounted", lathe.mounted(), 0);
            checks.due("passes", lathe.passes(), 0);
            checks.due("sharpenings", lathe.sharpenings(), 0);
            number++;
        }
        LatheCopies lathe = usual();
        lathe.takeOut();
        lathe.mount(0);
        checks.due("savedStates behind mount", lathe.savedStates(), 4);
        lathe.undo();
        checks.due("mount undone", lathe.hasMounted(), false);
        lathe.burn(0);
        checks.due("savedStates behind burn", lathe.savedStates(), 4);
        lathe.undo();
        checks.due("burn undone", lathe.pieces(), 1);
        checks.due("burnt undone", lathe.burnt(), 0);
    }

    private void notSavedByTheOthers() {
        checks.sentence("Each method that is marked \"undoable\" and does not throw an exception saves the state");
        LatheCopies lathe = usual();
        lathe.append('5');
        lathe.firstError();
        lathe.clearBuffer();
        lathe.keep(1);
        lathe.ifPassed();
        lathe.passesBySteps();
        lathe.passesByDivision();
        lathe.passesUntilBlunt();
        lathe.isFinished();
        lathe.bestCopy();
        lathe.mostLike(0);
        lathe.readingByQueue(15);
        lathe.lostGrooves();
        lathe.digest();
        checks.due("savedStates", lathe.savedStates(), 2);
        Checks.thrownBy(() -> lathe.addBlank(3, 50));
        Checks.thrownBy(() -> lathe.mount(0));
        Checks.thrownBy(() -> lathe.burn(0));
        Checks.thrownBy(() -> lathe.loadMaster(0));
        Checks.thrownBy(() -> lathe.goBack(2));
        Checks.thrownBy(() -> lathe.sand(0));
        checks.due("savedStates behind refused ones", lathe.savedStates(), 2);
        lathe.undo();
        checks.due("undo saves none", lathe.savedStates(), 1);
        checks.due("undo of the latest that saved", lathe.hasMounted(), false);
    }

    /** All that can be told is the same behind undo, for a call that changes much. */
    private void stateFromBeforeIt() {
        checks.sentence("saves the state from before it");
        LatheCopies lathe = Checks.mounted(2, 120);
        lathe.changeDepth(9);
        lathe.changeSpeed(5);
        long before = lathe.digest();
        checks.due("passUpTo", lathe.passUpTo(30), 2);
        checks.due("isJammed", lathe.isJammed(), true);
        lathe.undo();
        checks.due("digest behind undo", lathe.digest(), before);
        checks.due("isJammed behind undo", lathe.isJammed(), false);
        checks.due("jams behind undo", lathe.jams(), 0);
        checks.due("sharpness behind undo", lathe.sharpness(), 100);
        checks.due("passUpTo again", lathe.passUpTo(30), 2);
    }

    private void allButTheBufferAndTheSlots() {
        checks.sentence("all but the buffer, the slots and the saved states");
        LatheCopies lathe = new LatheCopies();
        Checks.type(lathe, "5x1");
        lathe.changeDepth(4);
        lathe.keep(0);
        lathe.append('6');
        lathe.keep(1);
        lathe.changeDepth(5);
        lathe.clearBuffer();
        Checks.type(lathe, "7,7");
        lathe.undo();
        checks.due("undo leaves the buffer", lathe.firstError(), 3);
        lathe.undo();
        checks.due("depth", lathe.depth(), 3);
        checks.due("undo leaves the buffer again", lathe.append('7'), 4);
        lathe.goBack(1);
        checks.due("depth of the slot, which undo leaves", lathe.depth(), 4);
        checks.due("goBack saves one, and brings none", lathe.savedStates(), 1);
        checks.due("goBack leaves the buffer", lathe.clearBuffer(), 4);
        checks.passes("goBack leaves the other slot", () -> lathe.goBack(0));
        checks.due("depth of the other slot", lathe.depth(), 4);
    }

    /** Each part of the state is changed behind the snapshot, and is back with it; six calls before make digests alike. */
    private void allIsInASnapshot() {
        checks.sentence("a snapshot is all but the buffer, the slots and the saved states");
        for (int slot = 0; slot <= 1; slot++) {
            LatheCopies lathe = used();
            lathe.keep(slot);
            long kept = lathe.digest();
            lathe.goBack(slot);
            checks.due("digest behind going back at once", lathe.digest(), kept);
            changeAll(lathe);
            checks.due("digest of a changed one", lathe.digest() != kept, true);
            lathe.goBack(slot);
            checks.due("digest behind going back", lathe.digest(), kept);
        }
        LatheCopies lathe = used();
        lathe.keep(0);
        LatheCopies other = used();
        changeAll(other);
        other.keep(0);
        changeAll(lathe);
        checks.due("digest of two changed alike", lathe.digest(), other.digest());
        lathe.keep(1);
        lathe.goBack(0);
        lathe.undo();
        lathe.sweep();
        other.keep(1);
        other.sweep();
        checks.due("digest of a saved state, with as many saved", lathe.digest(), other.digest());
    }

    private static LatheCopies used() {
        LatheCopies lathe = new LatheCopies();
        Checks.load(lathe, 2, "40,50x14,60");
        lathe.chooseMaster(2);
        lathe.addBlank(2, 90);
        lathe.addBlank(1, 80);
        lathe.addBlank(0, 70);
        lathe.mount(1);
        lathe.changeSpeed(4);
        lathe.changeDepth(8);
        lathe.changeTolerance(7);
        lathe.changeOffset(3);
        lathe.passUpTo(2);
        lathe.sharpen();
        lathe.burn(2);
        lathe.fitFollower(2);
        return lathe;
    }

    private static void changeAll(LatheCopies lathe) {
        lathe.takeOut();
        lathe.burn(0);
        lathe.burn(0);
        for (int piece = 0; piece < 5; piece++) {
            lathe.addBlank(piece % 3, 20 + piece);
        }
        lathe.mount(4);
        lathe.chooseMaster(1);
        lathe.mirrorMaster(2);
        lathe.carve(0, 0, 5);
        lathe.carve(1, 15, 99);
        lathe.sharpen();
        lathe.sweep();
        lathe.changeSpeed(1);
        lathe.changeDepth(1);
        lathe.changeTolerance(1);
        lathe.changeOffset(1);
        lathe.passUpTo(30);
        lathe.pass();
        lathe.fitFollower(1);
    }

    private void firstAndLastSlot() {
        checks.sentence("There are two slots");
        for (int slot = 0; slot <= 1; slot++) {
            int filled = slot;
            LatheCopies lathe = new LatheCopies();
            checks.refused("goBack to an empty one", lathe, STATE, () -> lathe.goBack(filled));
            lathe.changeOffset(3);
            lathe.keep(slot);
            lathe.changeOffset(4);
            checks.refused("goBack to the other one", lathe, STATE, () -> lathe.goBack(1 - filled));
            checks.passes("goBack", () -> lathe.goBack(filled));
            checks.due("offset", lathe.offset(), 3);
            checks.refused("goBack to the other one again", lathe, STATE, () -> lathe.goBack(1 - filled));
        }
        LatheCopies lathe = new LatheCopies();
        checks.refused("keep -1", lathe, ARGUMENT, () -> lathe.keep(-1));
        checks.refused("keep 2", lathe, ARGUMENT, () -> lathe.keep(2));
        checks.refused("goBack -1", lathe, ARGUMENT, () -> lathe.goBack(-1));
        checks.refused("goBack 2", lathe, ARGUMENT, () -> lathe.goBack(2));
    }

    private void inPlaceOfTheOneInTheSlot() {
        checks.sentence("Takes a snapshot, in place of the one in the slot.");
        LatheCopies lathe = new LatheCopies();
        for (int slot = 0; slot <= 1; slot++) {
            lathe.changeSpeed(1);
            lathe.keep(slot);
            lathe.changeSpeed(5);
            lathe.keep(slot);
            lathe.changeSpeed(3);
            lathe.goBack(slot);
            checks.due("speed of the later one", lathe.speed(), 5);
        }
        lathe.changeSpeed(4);
        lathe.keep(1);
        lathe.goBack(0);
        checks.due("speed of the slot 0", lathe.speed(), 5);
        lathe.goBack(1);
        checks.due("speed of the slot 1", lathe.speed(), 4);
    }

    private void snapshotStays() {
        checks.sentence("Goes back to a snapshot, which stays.");
        LatheCopies lathe = Checks.mounted(0, 60);
        lathe.keep(1);
        for (int round = 1; round <= 8; round++) {
            checks.due("pass", lathe.pass(), 48);
            lathe.carve(0, round, 50);
            lathe.takeOut();
            lathe.burn(0);
            lathe.goBack(1);
            checks.due("piece", Checks.piece(lathe, 0), Checks.times("60", 16));
            checks.due("master", Checks.master(lathe, 0), Checks.times("30", 16));
            checks.due("mounted", lathe.mounted(), 0);
            checks.due("passes", lathe.passes(), 0);
            checks.due("burnt", lathe.burnt(), 0);
            checks.due("chips", lathe.chips(), 0);
            checks.due("savedStates", lathe.savedStates(), 6);
        }
    }

    private void goBackWithSixSaved() {
        checks.sentence("Goes back to a snapshot, which stays. Undoable.");
        LatheCopies lathe = new LatheCopies();
        for (int depth = 4; depth <= 9; depth++) {
            lathe.changeDepth(depth);
        }
        lathe.keep(0);
        lathe.changeDepth(1);
        lathe.goBack(0);
        checks.due("savedStates", lathe.savedStates(), 6);
        checks.due("depth", lathe.depth(), 9);
        for (int depth : new int[] {1, 9, 8, 7, 6, 5}) {
            lathe.undo();
            checks.due("depth", lathe.depth(), depth);
        }
        checks.refused("undo of the dropped ones", lathe, STATE, lathe::undo);
        lathe.goBack(0);
        checks.due("depth of the slot behind all", lathe.depth(), 9);
    }

    /** How many passes the follower has done belongs to a state, though no call tells it but by the wear to come. */
    private void followersPassesAreOfTheState() {
        checks.sentence("a snapshot is all but the buffer, the slots and the saved states");
        for (int before = 0; before <= 3; before++) {
            LatheCopies lathe = Checks.mounted(0, 20);
            for (int pass = 0; pass < before; pass++) {
                lathe.pass();
            }
            lathe.keep(1);
            lathe.pass();
            lathe.pass();
            lathe.undo();
            lathe.undo();
            fourthPassComes("behind undo", lathe, before);
            lathe.fitFollower(0);
            lathe.goBack(1);
            fourthPassComes("behind goBack", lathe, before);
            lathe.goBack(1);
            lathe.fitFollower(0);
            lathe.undo();
            fourthPassComes("behind a follower that is undone", lathe, before);
        }
    }

    private void fourthPassComes(String what, LatheCopies lathe, int before) {
        for (int pass = before + 1; pass <= 4; pass++) {
            checks.due("wear " + what + ", " + before + " passes before", lathe.wear(), 0);
            lathe.pass();
        }
        checks.due("wear with the fourth pass " + what + ", " + before + " passes before", lathe.wear(), 1);
    }
}
