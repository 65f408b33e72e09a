import java.util.function.Supplier;

/** Each argument of each call: what is taken from its least to its greatest value, and refused beyond them. */
public final class ArgumentEndsTest {
    private static final Class<IndexOutOfBoundsException> INDEX = IndexOutOfBoundsException.class;
    private static final Class<IllegalArgumentException> ARGUMENT = IllegalArgumentException.class;

    private interface Call {
        void on(LatheCopies lathe, int value);
    }

    private interface Seen {
        boolean on(LatheCopies lathe, int value);
    }

    private final Checks checks = new Checks();

    public static void main(String[] args) {
        ArgumentEndsTest test = new ArgumentEndsTest();
        test.masters();
        test.followerAndCutter();
        test.pieces();
        test.cutting();
        test.textsAndSlots();
        test.steps();
        test.numbersOfPieces();
        test.checks.end();
    }

    private void masters() {
        among("carve, master", 0, 2, INDEX, (lathe, value) -> lathe.carve(value, 7, 44),
                (lathe, value) -> lathe.masterAt(value, 7) == 44);
        among("carve, step", 0, 15, INDEX, (lathe, value) -> lathe.carve(1, value, 44),
                (lathe, value) -> lathe.masterAt(1, value) == 44);
        among("carve, diameter", 5, 99, ARGUMENT, (lathe, value) -> lathe.carve(1, 7, value),
                (lathe, value) -> lathe.masterAt(1, 7) == value);
        among("copyMaster, from", 0, 2, INDEX, (lathe, value) -> lathe.copyMaster(value, 1),
                (lathe, value) -> lathe.masterAt(1, 15) == 40 + value);
        among("copyMaster, to", 0, 2, INDEX, (lathe, value) -> lathe.copyMaster(1, value),
                (lathe, value) -> lathe.masterAt(value, 0) == 41);
        among("mirrorMaster, master", ArgumentEndsTest::lopsided, 0, 2, INDEX, LatheCopies::mirrorMaster,
                (lathe, value) -> lathe.masterAt(value, 0) == 77 && lathe.masterAt(value, 15) == 40 + value);
        among("chooseMaster, master", 0, 2, INDEX, LatheCopies::chooseMaster,
                (lathe, value) -> lathe.chosenMaster() == value && lathe.readingByLooking(0) == 40 + value);
        among("loadMaster, master", 0, 2, INDEX, LatheCopies::loadMaster,
                (lathe, value) -> lathe.masterAt(value, 0) == 50 && lathe.masterAt(value, 15) == 50);
        among("masterAt, master", 0, 2, INDEX, (lathe, value) -> lathe.masterAt(value, 15),
                (lathe, value) -> lathe.masterAt(value, 15) == 40 + value);
    }

    private void followerAndCutter() {
        among("fitFollower, radius", 0, 3, ARGUMENT, LatheCopies::fitFollower,
                (lathe, value) -> lathe.radius() == value);
        among("changeOffset, offset", 0, 5, ARGUMENT, LatheCopies::changeOffset,
                (lathe, value) -> lathe.offset() == value && lathe.targetAt(3) == 40 + value);
        among("changeDepth, depth", 1, 9, ARGUMENT, LatheCopies::changeDepth,
                (lathe, value) -> lathe.depth() == value && lathe.cutDepth() == value);
        among("changeSpeed, speed", 1, 5, ARGUMENT, LatheCopies::changeSpeed,
                (lathe, value) -> lathe.speed() == value);
        among("changeTolerance, tolerance", 0, 20, ARGUMENT, LatheCopies::changeTolerance,
                (lathe, value) -> lathe.tolerance() == value);
    }

    private void pieces() {
        among("addBlank, wood", 0, 2, INDEX, (lathe, value) -> lathe.addBlank(value, 50),
                (lathe, value) -> lathe.pieces() == 2 && lathe.woodOf(1) == value);
        among("addBlank, diameter", 20, 120, ARGUMENT, (lathe, value) -> lathe.addBlank(1, value),
                (lathe, value) -> lathe.diameterAt(1, 0) == value && lathe.diameterAt(1, 15) == value);
    }

    /** One step only is 55 above its target, so that thirty passes of depth 1 neither finish nor jam. */
    private void cutting() {
        Supplier<LatheCopies> groove = () -> {
            LatheCopies lathe = Checks.mounted(0, 60);
            Checks.load(lathe, 0, "60x15,5");
            lathe.fitFollower(0);
            lathe.changeDepth(1);
            lathe.changeSpeed(1);
            return lathe;
        };
        among("passUpTo, passes", groove, 1, 30, ARGUMENT, LatheCopies::passUpTo,
                (lathe, value) -> lathe.passes() == value && lathe.sharpness() == 100 - value);
        among("sand, amount", groove, 1, 3, ARGUMENT, LatheCopies::sand,
                (lathe, value) -> lathe.woodTaken() == value && lathe.diameterAt(0, 15) == 60 - value);
    }

    private void textsAndSlots() {
        among("append, code", 33, 126, ARGUMENT, LatheCopies::append,
                (lathe, value) -> lathe.clearBuffer() == 6);
        among("keep, slot", 0, 1, ARGUMENT, LatheCopies::keep,
                (lathe, value) -> isFilled(lathe, value) && !isFilled(lathe, 1 - value));
        Supplier<LatheCopies> kept = () -> {
            LatheCopies lathe = new LatheCopies();
            lathe.changeDepth(4);
            lathe.keep(0);
            lathe.changeDepth(5);
            lathe.keep(1);
            lathe.changeDepth(6);
            return lathe;
        };
        among("goBack, slot", kept, 0, 1, ARGUMENT, LatheCopies::goBack,
                (lathe, value) -> lathe.depth() == 4 + value);
    }

    private static boolean isFilled(LatheCopies lathe, int slot) {
        return Checks.thrownBy(() -> lathe.goBack(slot)) == null;
    }

    private void steps() {
        among("masterAt, step", 0, 15, INDEX, (lathe, value) -> lathe.masterAt(2, value),
                (lathe, value) -> lathe.masterAt(2, value) == 42);
        among("diameterAt, step", 0, 15, INDEX, (lathe, value) -> lathe.diameterAt(0, value),
                (lathe, value) -> lathe.diameterAt(0, value) == 70);
        among("readingByLooking, step", 0, 15, INDEX, LatheCopies::readingByLooking,
                (lathe, value) -> lathe.readingByLooking(value) == 40);
        among("readingByQueue, step", 0, 15, INDEX, LatheCopies::readingByQueue,
                (lathe, value) -> lathe.readingByQueue(value) == 40);
        among("targetAt, step", 0, 15, INDEX, LatheCopies::targetAt,
                (lathe, value) -> lathe.targetAt(value) == 40);
    }

    private void numbersOfPieces() {
        for (int pieces : new int[] {0, 1, 4, 5}) {
            ofPieces("woodOf", pieces, LatheCopies::woodOf, (lathe, value) -> lathe.woodOf(value) == value % 3);
            ofPieces("diameterAt", pieces, (lathe, value) -> lathe.diameterAt(value, 15),
                    (lathe, value) -> lathe.diameterAt(value, 15) == 50 + value);
            ofPieces("passesOn", pieces, LatheCopies::passesOn, (lathe, value) -> lathe.passesOn(value) == 0);
            ofPieces("priceOf", pieces, LatheCopies::priceOf,
                    (lathe, value) -> lathe.priceOf(value) == (50 + value) * new int[] {2, 5, 9}[value % 3]);
            ofPieces("tooThick", pieces, LatheCopies::tooThick, (lathe, value) -> lathe.tooThick(value) == 20 + value);
            ofPieces("tooThin", pieces, LatheCopies::tooThin, (lathe, value) -> lathe.tooThin(value) == 0);
            ofPieces("faultsOf", pieces, LatheCopies::faultsOf, (lathe, value) -> lathe.faultsOf(value) == 16);
            ofPieces("isGood", pieces, LatheCopies::isGood, (lathe, value) -> !lathe.isGood(value));
            ofPieces("mostLike", pieces, LatheCopies::mostLike, (lathe, value) -> lathe.mostLike(value) == 0);
            ofPieces("chipsOf", pieces, LatheCopies::chipsOf, (lathe, value) -> lathe.chipsOf(value) == (20 + value) * 16);
            ofPieces("meanDiameter", pieces, LatheCopies::meanDiameter,
                    (lathe, value) -> lathe.meanDiameter(value) == 50.0 + value);
            ofPieces("mount", pieces, LatheCopies::mount, (lathe, value) -> lathe.mounted() == value);
            ofPieces("burn", pieces, LatheCopies::burn, (lathe, value) -> lathe.pieces() == pieces - 1);
        }
    }

    /** In a rack of so many pieces each number up to the last one is taken. */
    private void ofPieces(String what, int pieces, Call call, Seen seen) {
        Supplier<LatheCopies> made = () -> {
            LatheCopies lathe = new LatheCopies();
            for (int piece = 0; piece < pieces; piece++) {
                lathe.addBlank(piece % 3, 50 + piece);
            }
            return lathe;
        };
        among(what + " in a rack of " + pieces + ", piece", made, 0, pieces - 1, INDEX, call, seen);
    }

    private void among(String what, int least, int greatest, Class<? extends RuntimeException> thrown, Call call,
            Seen seen) {
        among(what, ArgumentEndsTest::usual, least, greatest, thrown, call, seen);
    }

    /** Three masters apart from one another, a piece, and a text that can be loaded. */
    private static LatheCopies usual() {
        LatheCopies lathe = new LatheCopies();
        for (int master = 0; master < 3; master++) {
            Checks.load(lathe, master, (40 + master) + "x16");
        }
        lathe.addBlank(0, 70);
        Checks.type(lathe, "50x16");
        return lathe;
    }

    private static LatheCopies lopsided() {
        LatheCopies lathe = usual();
        for (int master = 0; master < 3; master++) {
            lathe.carve(master, 15, 77);
        }
        return lathe;
    }

    private void among(String what, Supplier<LatheCopies> made, int least, int greatest,
            Class<? extends RuntimeException> thrown, Call call, Seen seen) {
        for (int value = least; value <= greatest; value++) {
            int taken = value;
            LatheCopies lathe = made.get();
            checks.passes(what + " " + taken, () -> call.on(lathe, taken));
            checks.passes(what + " " + taken, () -> checks.due(what + " " + taken + " is done",
                    seen.on(lathe, taken), true));
        }
        for (int value : new int[] {least - 1, greatest + 1, Integer.MIN_VALUE, Integer.MAX_VALUE}) {
            LatheCopies lathe = made.get();
            checks.refused(what + " " + value, lathe, thrown, () -> call.on(lathe, value));
        }
    }
}
