import java.util.ArrayList;
import java.util.List;
import java.util.function.Consumer;
import java.util.function.Supplier;

/**
 * Each refused call in each state that refuses it: the exception that is due, the one that is named first if several
 * apply, and that nothing is changed, which is told by a twin on which the call was not made.
 */
public final class RefusedCallsTest {
    private static final Class<IndexOutOfBoundsException> INDEX = IndexOutOfBoundsException.class;
    private static final Class<IllegalArgumentException> ARGUMENT = IllegalArgumentException.class;
    private static final Class<IllegalStateException> STATE = IllegalStateException.class;
    private static final int LEAST = Integer.MIN_VALUE;
    private static final int GREATEST = Integer.MAX_VALUE;

    private final Checks checks = new Checks();

    public static void main(String[] args) {
        RefusedCallsTest test = new RefusedCallsTest();
        test.inEachState();
        test.emptyRack();
        test.fullRack();
        test.noneMounted();
        test.oneMounted();
        test.jammed();
        test.blunt();
        test.jammedAndBlunt();
        test.texts();
        test.statesAndSlots();
        test.checks.end();
    }

    // ---- the states

    private static LatheCopies fresh() {
        return new LatheCopies();
    }

    /** All that there is room for: five pieces, six saved states, two snapshots, sixty characters; none mounted. */
    private static LatheCopies full() {
        LatheCopies lathe = new LatheCopies();
        Checks.load(lathe, 1, "60,20x14,61");
        lathe.chooseMaster(1);
        for (int piece = 0; piece < 5; piece++) {
            lathe.addBlank(piece % 3, 70 + piece);
        }
        lathe.keep(0);
        lathe.mount(3);
        for (int pass = 1; pass <= 5; pass++) {
            lathe.pass();
            lathe.sweep();
        }
        lathe.keep(1);
        lathe.pass();
        lathe.sand(2);
        lathe.changeOffset(2);
        lathe.carve(2, 0, 99);
        lathe.takeOut();
        Checks.type(lathe, "10x1,11x1,12x1,13x1,14x1,15x1,16x1,17x1,18x1,19x1,20,21,22x3");
        return lathe;
    }

    private static LatheCopies fullAndMounted() {
        LatheCopies lathe = full();
        lathe.mount(4);
        return lathe;
    }

    private static LatheCopies oneIsMounted() {
        LatheCopies lathe = Checks.mounted(1, 90);
        lathe.passUpTo(3);
        return lathe;
    }

    private static LatheCopies isJammed() {
        LatheCopies lathe = full();
        lathe.mount(2);
        lathe.changeDepth(9);
        lathe.passUpTo(30);
        return lathe;
    }

    private static LatheCopies isBlunt() {
        LatheCopies lathe = full();
        lathe.mount(2);
        lathe.changeSpeed(5);
        for (int pass = 1; pass <= 5 && lathe.sharpness() > 0; pass++) {
            lathe.sweep();
            lathe.pass();
        }
        lathe.sweep();
        return lathe;
    }

    /** The pass that makes the cutter blunt jams, too: the last three cut 80 each, or would. */
    private static LatheCopies isJammedAndBlunt() {
        LatheCopies lathe = full();
        lathe.mount(2);
        lathe.chooseMaster(0);
        lathe.changeSpeed(5);
        lathe.changeDepth(9);
        while (lathe.passesUntilBlunt() > 3) {
            lathe.sweep();
            lathe.pass();
        }
        lathe.sweep();
        lathe.passUpTo(3);
        return lathe;
    }

    // ---- the calls

    private void inEachState() {
        everywhere(RefusedCallsTest::fresh);
        everywhere(RefusedCallsTest::full);
        everywhere(RefusedCallsTest::fullAndMounted);
        everywhere(RefusedCallsTest::oneIsMounted);
        everywhere(RefusedCallsTest::isJammed);
        everywhere(RefusedCallsTest::isBlunt);
        everywhere(RefusedCallsTest::isJammedAndBlunt);
    }

    /** What is refused whatever the state is, by the first of the exceptions that apply. */
    private void everywhere(Supplier<LatheCopies> made) {
        for (int wrong : new int[] {-1, 3, LEAST, GREATEST}) {
            refused("carve " + wrong, made, INDEX, lathe -> lathe.carve(wrong, 0, 50));
            refused("carve " + wrong + " to 4", made, INDEX, lathe -> lathe.carve(wrong, 0, 4));
            refused("carve " + wrong + " at 16 to 100", made, INDEX, lathe -> lathe.carve(wrong, 16, 100));
            refused("copyMaster from " + wrong, made, INDEX, lathe -> lathe.copyMaster(wrong, 1));
            refused("copyMaster to " + wrong, made, INDEX, lathe -> lathe.copyMaster(1, wrong));
            refused("copyMaster " + wrong + " to itself", made, INDEX, lathe -> lathe.copyMaster(wrong, wrong));
            refused("mirrorMaster " + wrong, made, INDEX, lathe -> lathe.mirrorMaster(wrong));
            refused("chooseMaster " + wrong, made, INDEX, lathe -> lathe.chooseMaster(wrong));
            refused("addBlank of wood " + wrong, made, INDEX, lathe -> lathe.addBlank(wrong, 50));
            refused("addBlank of wood " + wrong + " too thin", made, INDEX, lathe -> lathe.addBlank(wrong, 19));
            refused("loadMaster " + wrong, made, INDEX, lathe -> lathe.loadMaster(wrong));
            refused("masterAt " + wrong, made, INDEX, lathe -> lathe.masterAt(wrong, 0));
            refused("masterAt " + wrong + " at 16", made, INDEX, lathe -> lathe.masterAt(wrong, 16));
        }
        for (int wrong : new int[] {-1, 16, LEAST, GREATEST}) {
            refused("carve at " + wrong, made, INDEX, lathe -> lathe.carve(2, wrong, 50));
            refused("carve at " + wrong + " to 100", made, INDEX, lathe -> lathe.carve(2, wrong, 100));
            refused("masterAt, at " + wrong, made, INDEX, lathe -> lathe.masterAt(2, wrong));
            refused("diameterAt, at " + wrong, made, INDEX, lathe -> lathe.diameterAt(0, wrong));
            refused("readingByLooking at " + wrong, made, INDEX, lathe -> lathe.readingByLooking(wrong));
            refused("readingByQueue at " + wrong, made, INDEX, lathe -> lathe.readingByQueue(wrong));
            refused("targetAt " + wrong, made, INDEX, lathe -> lathe.targetAt(wrong));
        }
        outOfRange(made, "carve to ", 5, 99, (lathe, value) -> lathe.carve(1, 15, value));
        outOfRange(made, "fitFollower ", 0, 3, LatheCopies::fitFollower);
        outOfRange(made, "changeOffset ", 0, 5, LatheCopies::changeOffset);
        outOfRange(made, "changeDepth ", 1, 9, LatheCopies::changeDepth);
        outOfRange(made, "changeSpeed ", 1, 5, LatheCopies::changeSpeed);
        outOfRange(made, "changeTolerance ", 0, 20, LatheCopies::changeTolerance);
        outOfRange(made, "addBlank of ", 20, 120, (lathe, value) -> lathe.addBlank(2, value));
        outOfRange(made, "passUpTo ", 1, 30, LatheCopies::passUpTo);
        outOfRange(made, "sand ", 1, 3, LatheCopies::sand);
        outOfRange(made, "append ", 33, 126, LatheCopies::append);
        outOfRange(made, "keep ", 0, 1, LatheCopies::keep);
        outOfRange(made, "goBack ", 0, 1, LatheCopies::goBack);
        noSuchPiece(made, made.get().pieces());
    }

    private interface Call {
        void on(LatheCopies lathe, int value);
    }

    private void outOfRange(Supplier<LatheCopies> made, String what, int least, int greatest, Call call) {
        for (int wrong : new int[] {least - 1, greatest + 1, LEAST, GREATEST}) {
            refused(what + wrong, made, ARGUMENT, lathe -> call.on(lathe, wrong));
        }
    }

    private void noSuchPiece(Supplier<LatheCopies> made, int pieces) {
        for (int wrong : new int[] {-1, pieces, LEAST, GREATEST}) {
            refused("burn " + wrong, made, INDEX, lathe -> lathe.burn(wrong));
            refused("mount " + wrong, made, INDEX, lathe -> lathe.mount(wrong));
            refused("woodOf " + wrong, made, INDEX, lathe -> lathe.woodOf(wrong));
            refused("diameterAt " + wrong, made, INDEX, lathe -> lathe.diameterAt(wrong, 0));
            refused("diameterAt " + wrong + " at 16", made, INDEX, lathe -> lathe.diameterAt(wrong, 16));
            refused("passesOn " + wrong, made, INDEX, lathe -> lathe.passesOn(wrong));
            refused("priceOf " + wrong, made, INDEX, lathe -> lathe.priceOf(wrong));
            refused("tooThick " + wrong, made, INDEX, lathe -> lathe.tooThick(wrong));
            refused("tooThin " + wrong, made, INDEX, lathe -> lathe.tooThin(wrong));
            refused("faultsOf " + wrong, made, INDEX, lathe -> lathe.faultsOf(wrong));
            refused("isGood " + wrong, made, INDEX, lathe -> lathe.isGood(wrong));
            refused("mostLike " + wrong, made, INDEX, lathe -> lathe.mostLike(wrong));
            refused("chipsOf " + wrong, made, INDEX, lathe -> lathe.chipsOf(wrong));
            refused("meanDiameter " + wrong, made, INDEX, lathe -> lathe.meanDiameter(wrong));
        }
    }

    private void emptyRack() {
        Supplier<LatheCopies> emptied = () -> {
            LatheCopies lathe = new LatheCopies();
            lathe.addBlank(2, 50);
            lathe.burn(0);
            return lathe;
        };
        refused("bestCopy of a new one", RefusedCallsTest::fresh, STATE, LatheCopies::bestCopy);
        refused("bestCopy of an emptied one", emptied, STATE, LatheCopies::bestCopy);
        noSuchPiece(emptied, 0);
        noneMounted(RefusedCallsTest::fresh);
        noneMounted(emptied);
    }

    private void fullRack() {
        for (int wood = 0; wood <= 2; wood++) {
            int of = wood;
            refused("addBlank to five", RefusedCallsTest::full, STATE, lathe -> lathe.addBlank(of, 20));
            refused("addBlank to five", RefusedCallsTest::fullAndMounted, STATE, lathe -> lathe.addBlank(of, 120));
        }
        refused("addBlank to five, too thin", RefusedCallsTest::full, ARGUMENT, lathe -> lathe.addBlank(0, 19));
        refused("addBlank to five, too thick", RefusedCallsTest::full, ARGUMENT, lathe -> lathe.addBlank(0, 121));
        refused("addBlank to five, no wood", RefusedCallsTest::full, INDEX, lathe -> lathe.addBlank(3, 50));
        refused("addBlank to five, all wrong", RefusedCallsTest::full, INDEX, lathe -> lathe.addBlank(-1, 121));
    }

    private void noneMounted() {
        noneMounted(RefusedCallsTest::full);
    }

    private void noneMounted(Supplier<LatheCopies> made) {
        refused("takeOut", made, STATE, LatheCopies::takeOut);
        refused("mounted", made, STATE, LatheCopies::mounted);
        refused("pass", made, STATE, LatheCopies::pass);
        refused("passUpTo 1", made, STATE, lathe -> lathe.passUpTo(1));
        refused("passUpTo 30", made, STATE, lathe -> lathe.passUpTo(30));
        refused("passUpTo 0", made, ARGUMENT, lathe -> lathe.passUpTo(0));
        refused("passUpTo 31", made, ARGUMENT, lathe -> lathe.passUpTo(31));
        refused("sand 1", made, STATE, lathe -> lathe.sand(1));
        refused("sand 3", made, STATE, lathe -> lathe.sand(3));
        refused("sand 0", made, ARGUMENT, lathe -> lathe.sand(0));
        refused("sand 4", made, ARGUMENT, lathe -> lathe.sand(4));
        refused("isFinished", made, STATE, LatheCopies::isFinished);
        refused("ifPassed", made, STATE, LatheCopies::ifPassed);
        refused("passesBySteps", made, STATE, LatheCopies::passesBySteps);
        refused("passesByDivision", made, STATE, LatheCopies::passesByDivision);
        refused("passesUntilBlunt", made, STATE, LatheCopies::passesUntilBlunt);
    }

    private void oneMounted() {
        for (int piece = 0; piece < 5; piece++) {
            int second = piece;
            refused("mount " + piece, RefusedCallsTest::fullAndMounted, STATE, lathe -> lathe.mount(second));
        }
        refused("mount 5, mounted", RefusedCallsTest::fullAndMounted, INDEX, lathe -> lathe.mount(5));
        refused("mount -1, mounted", RefusedCallsTest::fullAndMounted, INDEX, lathe -> lathe.mount(-1));
        refused("burn 4, mounted", RefusedCallsTest::fullAndMounted, STATE, lathe -> lathe.burn(4));
        refused("mount 0, the only one", RefusedCallsTest::oneIsMounted, STATE, lathe -> lathe.mount(0));
        refused("burn 0, the only one", RefusedCallsTest::oneIsMounted, STATE, lathe -> lathe.burn(0));
        refused("burn 1, the only one is 0", RefusedCallsTest::oneIsMounted, INDEX, lathe -> lathe.burn(1));
    }

    private void jammed() {
        checks.due("isJammed", isJammed().isJammed(), true);
        checks.due("sharpness above 0", isJammed().sharpness() > 0, true);
        noPass(RefusedCallsTest::isJammed);
    }

    private void noPass(Supplier<LatheCopies> made) {
        refused("pass", made, STATE, LatheCopies::pass);
        refused("passUpTo 1", made, STATE, lathe -> lathe.passUpTo(1));
        refused("passUpTo 30", made, STATE, lathe -> lathe.passUpTo(30));
        refused("passUpTo 0", made, ARGUMENT, lathe -> lathe.passUpTo(0));
        refused("passUpTo 31", made, ARGUMENT, lathe -> lathe.passUpTo(31));
        refused("ifPassed", made, STATE, LatheCopies::ifPassed);
    }

    private void blunt() {
        checks.due("sharpness", isBlunt().sharpness(), 0);
        checks.due("isJammed", isBlunt().isJammed(), false);
        noPass(RefusedCallsTest::isBlunt);
        refused("passesBySteps", RefusedCallsTest::isBlunt, STATE, LatheCopies::passesBySteps);
        refused("passesByDivision", RefusedCallsTest::isBlunt, STATE, LatheCopies::passesByDivision);
    }

    private void jammedAndBlunt() {
        checks.due("sharpness", isJammedAndBlunt().sharpness(), 0);
        checks.due("isJammed", isJammedAndBlunt().isJammed(), true);
        noPass(RefusedCallsTest::isJammedAndBlunt);
        refused("passesBySteps", RefusedCallsTest::isJammedAndBlunt, STATE, LatheCopies::passesBySteps);
        refused("passesByDivision", RefusedCallsTest::isJammedAndBlunt, STATE, LatheCopies::passesByDivision);
        checks.passes("sweep and sharpen", () -> {
            LatheCopies lathe = isJammedAndBlunt();
            lathe.sweep();
            checks.refused("pass of a blunt one", lathe, STATE, lathe::pass);
            lathe.sharpen();
            lathe.pass();
        });
        checks.passes("sharpen and sweep", () -> {
            LatheCopies lathe = isJammedAndBlunt();
            lathe.sharpen();
            checks.refused("pass of a jammed one", lathe, STATE, lathe::pass);
            lathe.sweep();
            lathe.pass();
        });
    }

    private void texts() {
        refused("append to 60", RefusedCallsTest::full, STATE, lathe -> lathe.append('5'));
        refused("append 33 to 60", RefusedCallsTest::full, STATE, lathe -> lathe.append(33));
        refused("append 126 to 60", RefusedCallsTest::full, STATE, lathe -> lathe.append(126));
        refused("append 32 to 60", RefusedCallsTest::full, ARGUMENT, lathe -> lathe.append(32));
        refused("append 127 to 60", RefusedCallsTest::full, ARGUMENT, lathe -> lathe.append(127));
        for (int master = 0; master <= 2; master++) {
            int to = master;
            refused("loadMaster of nothing", RefusedCallsTest::fresh, ARGUMENT, lathe -> lathe.loadMaster(to));
            refused("loadMaster of no master", RefusedCallsTest::full, ARGUMENT, lathe -> lathe.loadMaster(to));
        }
        Supplier<LatheCopies> whole = () -> {
            LatheCopies lathe = full();
            Checks.type(lathe, "10x16");
            return lathe;
        };
        refused("loadMaster 3 of a master", whole, INDEX, lathe -> lathe.loadMaster(3));
        refused("loadMaster -1 of a master", whole, INDEX, lathe -> lathe.loadMaster(-1));
    }

    private void statesAndSlots() {
        Supplier<LatheCopies> undone = () -> {
            LatheCopies lathe = full();
            while (lathe.savedStates() > 0) {
                lathe.undo();
            }
            return lathe;
        };
        refused("undo of a new one", RefusedCallsTest::fresh, STATE, LatheCopies::undo);
        refused("undo of one undone", undone, STATE, LatheCopies::undo);
        refused("goBack 0 of a new one", RefusedCallsTest::fresh, STATE, lathe -> lathe.goBack(0));
        refused("goBack 1 of a new one", RefusedCallsTest::fresh, STATE, lathe -> lathe.goBack(1));
        refused("goBack 2 of a new one", RefusedCallsTest::fresh, ARGUMENT, lathe -> lathe.goBack(2));
        refused("goBack -1 of a new one", RefusedCallsTest::fresh, ARGUMENT, lathe -> lathe.goBack(-1));
        for (int slot = 0; slot <= 1; slot++) {
            int filled = slot;
            Supplier<LatheCopies> kept = () -> {
                LatheCopies lathe = new LatheCopies();
                lathe.changeDepth(9);
                lathe.keep(filled);
                return lathe;
            };
            refused("goBack to the empty one of two", kept, STATE, lathe -> lathe.goBack(1 - filled));
            refused("goBack 2", kept, ARGUMENT, lathe -> lathe.goBack(2));
        }
    }

    // ---- a call and its twin without it

    private void refused(String what, Supplier<LatheCopies> made, Class<? extends RuntimeException> due,
            Consumer<LatheCopies> call) {
        LatheCopies lathe = made.get();
        LatheCopies twin = made.get();
        checks.due(what + " throws", Checks.thrownBy(() -> call.accept(lathe)), due);
        checks.due(what + " changes nothing: what can be told", told(lathe), told(twin));
        LatheCopies another = made.get();
        Checks.thrownBy(() -> call.accept(another));
        checks.due(what + " changes nothing: wears to come", wears(another), wears(made.get()));
    }

    /** The digests of now, of the saved states, from the latest one to the oldest one, and of the snapshots. */
    private static List<Long> told(LatheCopies lathe) {
        List<Long> told = new ArrayList<>();
        told.add(lathe.digest());
        while (lathe.savedStates() > 0) {
            lathe.undo();
            told.add(lathe.digest());
        }
        for (int slot = 0; slot <= 1; slot++) {
            int of = slot;
            told.add(Checks.thrownBy(() -> lathe.goBack(of)) == null ? lathe.digest() : 0L);
        }
        return told;
    }

    /** How the follower wears in the next four passes, which tells how many it has done since it was new. */
    private static List<Integer> wears(LatheCopies lathe) {
        List<Integer> wears = new ArrayList<>();
        if (!lathe.hasMounted()) {
            if (lathe.pieces() == 0) {
                lathe.addBlank(0, 20);
            }
            lathe.mount(0);
        }
        lathe.sharpen();
        for (int pass = 1; pass <= 4; pass++) {
            lathe.sweep();
            lathe.pass();
            wears.add(lathe.wear());
        }
        return wears;
    }
}
