import java.util.function.Consumer;

/** Promises 24 to 27, and what "undoable" says of the others. */
public final class UndoTest {
    private static final Class<IllegalArgumentException> ARGUMENT = IllegalArgumentException.class;
    private static final Class<IllegalStateException> STATE = IllegalStateException.class;

    private final Checks checks = new Checks();

    public static void main(String[] args) {
        UndoTest test = new UndoTest();
        test.undoOfEach();
        test.atMostSix();
        test.ringGoesRound();
        test.keepAndGoBack();
        test.undoOfGoBack();
        test.snapshotHasTheFollowersPasses();
        test.snapshotsAreOfTheirOwn();
        test.wornAndBlunt();
        test.refused();
        test.notUndoable();
        test.checks.end();
    }

    /** Each undoable call saves one state, and undo leaves the state as it was before it. */
    private void undoOfEach() {
        undone("carve", lathe -> lathe.carve(0, 3, 44));
        undone("copyMaster", lathe -> lathe.copyMaster(1, 0));
        undone("mirrorMaster", lathe -> lathe.mirrorMaster(1));
        undone("chooseMaster", lathe -> lathe.chooseMaster(1));
        undone("fitFollower", lathe -> lathe.fitFollower(3));
        undone("changeOffset", lathe -> lathe.changeOffset(2));
        undone("sharpen", LatheCopies::sharpen);
        undone("changeDepth", lathe -> lathe.changeDepth(7));
        undone("changeSpeed", lathe -> lathe.changeSpeed(4));
        undone("changeTolerance", lathe -> lathe.changeTolerance(9));
        undone("sweep", LatheCopies::sweep);
        undone("addBlank", lathe -> lathe.addBlank(1, 99));
        undone("burn", lathe -> lathe.burn(1));
        undone("takeOut", LatheCopies::takeOut);
        undone("pass", LatheCopies::pass);
        undone("passUpTo", lathe -> lathe.passUpTo(30));
        undone("sand", lathe -> lathe.sand(2));
        undone("goBack", lathe -> lathe.goBack(1));
        LatheCopies lathe = new LatheCopies();
        lathe.addBlank(0, 40);
        long before = lathe.digest();
        lathe.mount(0);
        checks.due("mount saves: savedStates", lathe.savedStates(), 2);
        lathe.undo();
        checks.due("mount undone: digest", lathe.digest(), before);
    }

    private void undone(String what, Consumer<LatheCopies> call) {
        LatheCopies lathe = filled();
        long before = lathe.digest();
        call.accept(lathe);
        checks.due(what + " saves: savedStates", lathe.savedStates(), 6);
        lathe.append('5');
        lathe.undo();
        lathe.clearBuffer();
        checks.due(what + " undone: digest", lathe.digest(), before);
    }

    /** A lathe in use, for which five states are saved. */
    private static LatheCopies filled() {
        LatheCopies lathe = new LatheCopies();
        lathe.keep(1);
        Checks.load(lathe, 1, "50,40x15");
        lathe.addBlank(0, 60);
        lathe.addBlank(2, 50);
        lathe.addBlank(1, 40);
        lathe.mount(0);
        lathe.pass();
        lathe.sweep();
        lathe.undo();
        return lathe;
    }

    private void atMostSix() {
        LatheCopies lathe = new LatheCopies();
        for (int depth = 1; depth <= 9; depth++) {
            lathe.changeDepth(depth);
            checks.due("savedStates", lathe.savedStates(), Math.min(6, depth));
        }
        for (int depth = 8; depth >= 3; depth--) {
            lathe.undo();
            checks.due("depth", lathe.depth(), depth);
            checks.due("savedStates", lathe.savedStates(), depth - 3);
        }
        checks.refused("undo of the dropped one", lathe, STATE, lathe::undo);
        checks.due("depth", lathe.depth(), 3);
    }

    private void ringGoesRound() {
        LatheCopies lathe = new LatheCopies();
        for (int round = 0; round < 20; round++) {
            lathe.changeTolerance(round);
            lathe.changeTolerance(20 - round);
            lathe.undo();
            checks.due("tolerance", lathe.tolerance(), round);
        }
        for (int round = 18; round >= 14; round--) {
            lathe.undo();
            checks.due("tolerance", lathe.tolerance(), round);
        }
        checks.due("savedStates", lathe.savedStates(), 0);
    }

    private void keepAndGoBack() {
        LatheCopies lathe = Checks.mounted(1, 50);
        lathe.keep(0);
        checks.due("keep is not undoable: savedStates", lathe.savedStates(), 2);
        lathe.pass();
        lathe.keep(1);
        lathe.pass();
        Checks.type(lathe, "5x1");
        lathe.goBack(0);
        checks.due("passes in slot 0", lathe.passes(), 0);
        checks.due("diameter in slot 0", lathe.diameterAt(0, 9), 50);
        checks.due("savedStates", lathe.savedStates(), 5);
        lathe.goBack(1);
        checks.due("passes in slot 1", lathe.passes(), 1);
        checks.due("sharpness in slot 1", lathe.sharpness(), 96);
        checks.due("chips in slot 1", lathe.chips(), 48);
        lathe.goBack(0);
        checks.due("a snapshot stays", lathe.passes(), 0);
        checks.due("the buffer stays", lathe.clearBuffer(), 3);
        lathe.changeDepth(9);
        lathe.keep(0);
        lathe.changeDepth(8);
        lathe.goBack(0);
        checks.due("keep in place of the one before", lathe.depth(), 9);
        lathe.goBack(1);
        checks.due("the other slot stays", lathe.depth(), 3);
    }

    private void undoOfGoBack() {
        LatheCopies lathe = new LatheCopies();
        lathe.keep(1);
        lathe.changeDepth(5);
        lathe.goBack(1);
        checks.due("depth", lathe.depth(), 3);
        lathe.undo();
        checks.due("depth after undo", lathe.depth(), 5);
        lathe.undo();
        checks.due("depth after undo", lathe.depth(), 3);
        checks.due("savedStates", lathe.savedStates(), 0);
        lathe.goBack(1);
        checks.due("undo leaves the slots", lathe.savedStates(), 1);
        checks.refused("the other slot is empty", lathe, STATE, () -> lathe.goBack(0));
    }

    private void snapshotHasTheFollowersPasses() {
        LatheCopies lathe = Checks.mounted(0, 20);
        lathe.pass();
        lathe.pass();
        lathe.pass();
        lathe.keep(0);
        lathe.fitFollower(1);
        lathe.undo();
        lathe.pass();
        checks.due("wear after undo and the fourth pass", lathe.wear(), 1);
        lathe.undo();
        checks.due("wear after undo", lathe.wear(), 0);
        lathe.pass();
        checks.due("wear after the fourth pass again", lathe.wear(), 1);
        lathe.fitFollower(1);
        lathe.goBack(0);
        lathe.pass();
        checks.due("wear after goBack and the fourth pass", lathe.wear(), 1);
    }

    private void snapshotsAreOfTheirOwn() {
        LatheCopies lathe = Checks.mounted(2, 60);
        lathe.keep(0);
        long kept = hashWithoutSaved(lathe);
        lathe.pass();
        lathe.sharpen();
        lathe.sand(2);
        lathe.carve(0, 0, 9);
        lathe.takeOut();
        lathe.burn(0);
        lathe.goBack(0);
        lathe.pass();
        lathe.goBack(0);
        while (lathe.savedStates() < 6) {
            lathe.sweep();
        }
        checks.due("snapshot after changes", hashWithoutSaved(lathe), kept);
    }

    /** Six calls that change nothing make the count of saved states the same for each digest. */
    private static long hashWithoutSaved(LatheCopies lathe) {
        for (int call = 0; call < 6; call++) {
            lathe.changeTolerance(lathe.tolerance());
        }
        return lathe.digest();
    }

    /** What is worn, blunt, cut and full of chips is so again behind undo and goBack. */
    private void wornAndBlunt() {
        LatheCopies lathe = Checks.sharp(9);
        lathe.changeDepth(7);
        lathe.changeTolerance(11);
        lathe.fitFollower(2);
        lathe.chooseMaster(2);
        for (int pass = 1; pass <= 9; pass++) {
            lathe.pass();
        }
        lathe.sharpen();
        for (int pass = 1; pass <= 60; pass++) {
            lathe.pass();
        }
        lathe.chooseMaster(0);
        checks.due("pass", lathe.pass(), 64);
        checks.due("wear", lathe.wear(), 17);
        checks.due("sharpness", lathe.sharpness(), 39);
        checks.due("depth", lathe.depth(), 7);
        String told = told(lathe);
        lathe.keep(1);
        lathe.fitFollower(0);
        lathe.undo();
        checks.due("the state behind undo", told(lathe), told);
        for (int more = 1; more <= 3; more++) {
            lathe.sharpen();
            lathe.pass();
            lathe.sweep();
            lathe.changeDepth(more);
            lathe.goBack(1);
            checks.due("the state behind goBack " + more, told(lathe), told);
        }
    }

    private static String told(LatheCopies lathe) {
        return lathe.radius() + " " + lathe.wear() + " " + lathe.sharpness() + " " + lathe.depth() + " "
                + lathe.cutDepth() + " " + lathe.speed() + " " + lathe.tolerance() + " " + lathe.chips() + " "
                + lathe.isJammed() + " " + lathe.passes() + " " + lathe.woodTaken() + " " + lathe.sharpenings() + " "
                + lathe.passesOn(0) + " " + Checks.piece(lathe, 0);
    }

    private void refused() {
        LatheCopies lathe = new LatheCopies();
        for (int slot : new int[] {-1, 2, Integer.MIN_VALUE, Integer.MAX_VALUE}) {
            checks.refused("keep " + slot, lathe, ARGUMENT, () -> lathe.keep(slot));
            checks.refused("goBack " + slot, lathe, ARGUMENT, () -> lathe.goBack(slot));
        }
        checks.refused("goBack 0", lathe, STATE, () -> lathe.goBack(0));
        checks.refused("goBack 1", lathe, STATE, () -> lathe.goBack(1));
        checks.refused("undo", lathe, STATE, lathe::undo);
        lathe.keep(0);
        checks.refused("goBack 1", lathe, STATE, () -> lathe.goBack(1));
        checks.refused("undo after keep", lathe, STATE, lathe::undo);
    }

    private void notUndoable() {
        LatheCopies lathe = Checks.mounted(0, 60);
        lathe.append('5');
        lathe.firstError();
        lathe.clearBuffer();
        lathe.keep(0);
        lathe.ifPassed();
        lathe.passesBySteps();
        lathe.isFinished();
        lathe.digest();
        checks.due("savedStates", lathe.savedStates(), 2);
        lathe.undo();
        checks.due("undo saves nothing", lathe.savedStates(), 1);
    }
}
